/-! blocks of the class -/
theorem D133_0 {g : im_g} : im_D g 133 0 (.aload_n 1) 1 := im_D.of (by decide +kernel)
theorem D133_1 {g : im_g} : im_D g 133 1 (.getfield 19) 4 := im_D.of (by decide +kernel)
theorem D133_4 {g : im_g} : im_D g 133 4 (.istore_n 3) 5 := im_D.of (by decide +kernel)
theorem D133_5 {g : im_g} : im_D g 133 5 (.ldc2_w 25) 8 := im_D.of (by decide +kernel)
theorem D133_8 {g : im_g} : im_D g 133 8 (.lconst 1) 9 := im_D.of (by decide +kernel)
theorem D133_9 {g : im_g} : im_D g 133 9 (.aload_n 1) 10 := im_D.of (by decide +kernel)
theorem D133_10 {g : im_g} : im_D g 133 10 (.getfield 9) 13 := im_D.of (by decide +kernel)
theorem D133_13 {g : im_g} : im_D g 133 13 (.iload_n 3) 14 := im_D.of (by decide +kernel)
theorem D133_14 {g : im_g} : im_D g 133 14 (.iconst 1) 15 := im_D.of (by decide +kernel)
theorem D133_15 {g : im_g} : im_D g 133 15 (.isub) 16 := im_D.of (by decide +kernel)
theorem D133_16 {g : im_g} : im_D g 133 16 (.iaload) 17 := im_D.of (by decide +kernel)
theorem D133_17 {g : im_g} : im_D g 133 17 (.i2l) 18 := im_D.of (by decide +kernel)
theorem D133_18 {g : im_g} : im_D g 133 18 (.lconst 1) 19 := im_D.of (by decide +kernel)
theorem D133_19 {g : im_g} : im_D g 133 19 (.ladd) 20 := im_D.of (by decide +kernel)
theorem D133_20 {g : im_g} : im_D g 133 20 (.invokestatic 65) 23 := im_D.of (by decide +kernel)
theorem D133_23 {g : im_g} : im_D g 133 23 (.ldiv) 24 := im_D.of (by decide +kernel)
theorem D133_24 {g : im_g} : im_D g 133 24 (.lstore 4) 26 := im_D.of (by decide +kernel)
theorem D133_26 {g : im_g} : im_D g 133 26 (.aload_n 0) 27 := im_D.of (by decide +kernel)
theorem D133_27 {g : im_g} : im_D g 133 27 (.lload 4) 29 := im_D.of (by decide +kernel)
theorem D133_29 {g : im_g} : im_D g 133 29 (.aload_n 2) 30 := im_D.of (by decide +kernel)
theorem D133_30 {g : im_g} : im_D g 133 30 (.iconst 0) 31 := im_D.of (by decide +kernel)
theorem D133_31 {g : im_g} : im_D g 133 31 (.invokestatic 68) 34 := im_D.of (by decide +kernel)
theorem D133_34 {g : im_g} : im_D g 133 34 (.aload_n 1) 35 := im_D.of (by decide +kernel)
theorem D133_35 {g : im_g} : im_D g 133 35 (.lload 4) 37 := im_D.of (by decide +kernel)
theorem D133_37 {g : im_g} : im_D g 133 37 (.aload_n 2) 38 := im_D.of (by decide +kernel)
theorem D133_38 {g : im_g} : im_D g 133 38 (.bipush 36) 40 := im_D.of (by decide +kernel)
theorem D133_40 {g : im_g} : im_D g 133 40 (.invokestatic 68) 43 := im_D.of (by decide +kernel)
theorem D133_43 {g : im_g} : im_D g 133 43 (.aload_n 0) 44 := im_D.of (by decide +kernel)
theorem D133_44 {g : im_g} : im_D g 133 44 (.getfield 19) 47 := im_D.of (by decide +kernel)
theorem D133_47 {g : im_g} : im_D g 133 47 (.iload_n 3) 48 := im_D.of (by decide +kernel)
theorem D133_48 {g : im_g} : im_D g 133 48 (.isub) 49 := im_D.of (by decide +kernel)
theorem D133_49 {g : im_g} : im_D g 133 49 (.istore 6) 51 := im_D.of (by decide +kernel)
theorem D133_51 {g : im_g} : im_D g 133 51 (.iload 6) 53 := im_D.of (by decide +kernel)
theorem D133_53 {g : im_g} : im_D g 133 53 (.istore 7) 55 := im_D.of (by decide +kernel)
theorem D133_55 {g : im_g} : im_D g 133 55 (.iload 7) 57 := im_D.of (by decide +kernel)
theorem D133_57 {g : im_g} : im_D g 133 57 (.ifCond .lt 24) 60 := im_D.of (by decide +kernel)
theorem D133_60 {g : im_g} : im_D g 133 60 (.aload_n 0) 61 := im_D.of (by decide +kernel)
theorem D133_61 {g : im_g} : im_D g 133 61 (.getfield 9) 64 := im_D.of (by decide +kernel)
theorem D133_64 {g : im_g} : im_D g 133 64 (.iload 7) 66 := im_D.of (by decide +kernel)
theorem D133_66 {g : im_g} : im_D g 133 66 (.aload_n 2) 67 := im_D.of (by decide +kernel)
theorem D133_67 {g : im_g} : im_D g 133 67 (.iload 7) 69 := im_D.of (by decide +kernel)
theorem D133_69 {g : im_g} : im_D g 133 69 (.iload_n 3) 70 := im_D.of (by decide +kernel)
theorem D133_70 {g : im_g} : im_D g 133 70 (.invokestatic 72) 73 := im_D.of (by decide +kernel)
theorem D133_73 {g : im_g} : im_D g 133 73 (.l2i) 74 := im_D.of (by decide +kernel)
theorem D133_74 {g : im_g} : im_D g 133 74 (.iastore) 75 := im_D.of (by decide +kernel)
theorem D133_75 {g : im_g} : im_D g 133 75 (.iinc 7 (-1)) 78 := im_D.of (by decide +kernel)
theorem D133_78 {g : im_g} : im_D g 133 78 (.goto (-23)) 81 := im_D.of (by decide +kernel)
theorem D133_81 {g : im_g} : im_D g 133 81 (.aload_n 0) 82 := im_D.of (by decide +kernel)
theorem D133_82 {g : im_g} : im_D g 133 82 (.iload 6) 84 := im_D.of (by decide +kernel)
theorem D133_84 {g : im_g} : im_D g 133 84 (.iconst 1) 85 := im_D.of (by decide +kernel)
theorem D133_85 {g : im_g} : im_D g 133 85 (.iadd) 86 := im_D.of (by decide +kernel)
theorem D133_86 {g : im_g} : im_D g 133 86 (.putfield 19) 89 := im_D.of (by decide +kernel)
theorem D133_89 {g : im_g} : im_D g 133 89 (.return_) 90 := im_D.of (by decide +kernel)
theorem D134_0 {g : im_g} : im_D g 134 0 (.lconst 0) 1 := im_D.of (by decide +kernel)
theorem D134_1 {g : im_g} : im_D g 134 1 (.lstore 5) 3 := im_D.of (by decide +kernel)
theorem D134_3 {g : im_g} : im_D g 134 3 (.iconst 0) 4 := im_D.of (by decide +kernel)
theorem D134_4 {g : im_g} : im_D g 134 4 (.istore 7) 6 := im_D.of (by decide +kernel)
theorem D134_6 {g : im_g} : im_D g 134 6 (.iload 7) 8 := im_D.of (by decide +kernel)
theorem D134_8 {g : im_g} : im_D g 134 8 (.aload_n 0) 9 := im_D.of (by decide +kernel)
theorem D134_9 {g : im_g} : im_D g 134 9 (.getfield 19) 12 := im_D.of (by decide +kernel)
theorem D134_12 {g : im_g} : im_D g 134 12 (.if_icmp .ge 45) 15 := im_D.of (by decide +kernel)
theorem D134_15 {g : im_g} : im_D g 134 15 (.aload_n 0) 16 := im_D.of (by decide +kernel)
theorem D134_16 {g : im_g} : im_D g 134 16 (.getfield 9) 19 := im_D.of (by decide +kernel)
theorem D134_19 {g : im_g} : im_D g 134 19 (.iload 7) 21 := im_D.of (by decide +kernel)
theorem D134_21 {g : im_g} : im_D g 134 21 (.iaload) 22 := im_D.of (by decide +kernel)
theorem D134_22 {g : im_g} : im_D g 134 22 (.i2l) 23 := im_D.of (by decide +kernel)
theorem D134_23 {g : im_g} : im_D g 134 23 (.lload_n 1) 24 := im_D.of (by decide +kernel)
theorem D134_24 {g : im_g} : im_D g 134 24 (.lmul) 25 := im_D.of (by decide +kernel)
theorem D134_25 {g : im_g} : im_D g 134 25 (.lload 5) 27 := im_D.of (by decide +kernel)
theorem D134_27 {g : im_g} : im_D g 134 27 (.ladd) 28 := im_D.of (by decide +kernel)
theorem D134_28 {g : im_g} : im_D g 134 28 (.lstore 8) 30 := im_D.of (by decide +kernel)
theorem D134_30 {g : im_g} : im_D g 134 30 (.aload_n 3) 31 := im_D.of (by decide +kernel)
theorem D134_31 {g : im_g} : im_D g 134 31 (.iload 4) 33 := im_D.of (by decide +kernel)
theorem D134_33 {g : im_g} : im_D g 134 33 (.iload 7) 35 := im_D.of (by decide +kernel)
theorem D134_35 {g : im_g} : im_D g 134 35 (.iadd) 36 := im_D.of (by decide +kernel)
theorem D134_36 {g : im_g} : im_D g 134 36 (.lload 8) 38 := im_D.of (by decide +kernel)
theorem D134_38 {g : im_g} : im_D g 134 38 (.ldc2_w 25) 41 := im_D.of (by decide +kernel)
theorem D134_41 {g : im_g} : im_D g 134 41 (.lrem) 42 := im_D.of (by decide +kernel)
theorem D134_42 {g : im_g} : im_D g 134 42 (.lastore) 43 := im_D.of (by decide +kernel)
theorem D134_43 {g : im_g} : im_D g 134 43 (.lload 8) 45 := im_D.of (by decide +kernel)
theorem D134_45 {g : im_g} : im_D g 134 45 (.ldc2_w 25) 48 := im_D.of (by decide +kernel)
theorem D134_48 {g : im_g} : im_D g 134 48 (.ldiv) 49 := im_D.of (by decide +kernel)
theorem D134_49 {g : im_g} : im_D g 134 49 (.lstore 5) 51 := im_D.of (by decide +kernel)
theorem D134_51 {g : im_g} : im_D g 134 51 (.iinc 7 1) 54 := im_D.of (by decide +kernel)
theorem D134_54 {g : im_g} : im_D g 134 54 (.goto (-48)) 57 := im_D.of (by decide +kernel)
theorem D134_57 {g : im_g} : im_D g 134 57 (.aload_n 3) 58 := im_D.of (by decide +kernel)
theorem D134_58 {g : im_g} : im_D g 134 58 (.iload 4) 60 := im_D.of (by decide +kernel)
theorem D134_60 {g : im_g} : im_D g 134 60 (.aload_n 0) 61 := im_D.of (by decide +kernel)
theorem D134_61 {g : im_g} : im_D g 134 61 (.getfield 19) 64 := im_D.of (by decide +kernel)
theorem D134_64 {g : im_g} : im_D g 134 64 (.iadd) 65 := im_D.of (by decide +kernel)
theorem D134_65 {g : im_g} : im_D g 134 65 (.lload 5) 67 := im_D.of (by decide +kernel)
theorem D134_67 {g : im_g} : im_D g 134 67 (.lastore) 68 := im_D.of (by decide +kernel)
theorem D134_68 {g : im_g} : im_D g 134 68 (.return_) 69 := im_D.of (by decide +kernel)
theorem D135_0 {g : im_g} : im_D g 135 0 (.aload_n 0) 1 := im_D.of (by decide +kernel)
theorem D135_1 {g : im_g} : im_D g 135 1 (.bipush 36) 3 := im_D.of (by decide +kernel)
theorem D135_3 {g : im_g} : im_D g 135 3 (.iload_n 2) 4 := im_D.of (by decide +kernel)
theorem D135_4 {g : im_g} : im_D g 135 4 (.iadd) 5 := im_D.of (by decide +kernel)
theorem D135_5 {g : im_g} : im_D g 135 5 (.iconst 1) 6 := im_D.of (by decide +kernel)
theorem D135_6 {g : im_g} : im_D g 135 6 (.isub) 7 := im_D.of (by decide +kernel)
theorem D135_7 {g : im_g} : im_D g 135 7 (.laload) 8 := im_D.of (by decide +kernel)
theorem D135_8 {g : im_g} : im_D g 135 8 (.lstore_n 3) 9 := im_D.of (by decide +kernel)
theorem D135_9 {g : im_g} : im_D g 135 9 (.lload_n 3) 10 := im_D.of (by decide +kernel)
theorem D135_10 {g : im_g} : im_D g 135 10 (.lconst 0) 11 := im_D.of (by decide +kernel)
theorem D135_11 {g : im_g} : im_D g 135 11 (.lcmp) 12 := im_D.of (by decide +kernel)
theorem D135_12 {g : im_g} : im_D g 135 12 (.ifCond .gt 5) 15 := im_D.of (by decide +kernel)
theorem D135_15 {g : im_g} : im_D g 135 15 (.lconst 0) 16 := im_D.of (by decide +kernel)
theorem D135_16 {g : im_g} : im_D g 135 16 (.lreturn) 17 := im_D.of (by decide +kernel)
theorem D135_17 {g : im_g} : im_D g 135 17 (.aload_n 0) 18 := im_D.of (by decide +kernel)
theorem D135_18 {g : im_g} : im_D g 135 18 (.iload_n 1) 19 := im_D.of (by decide +kernel)
theorem D135_19 {g : im_g} : im_D g 135 19 (.iload_n 2) 20 := im_D.of (by decide +kernel)
theorem D135_20 {g : im_g} : im_D g 135 20 (.iadd) 21 := im_D.of (by decide +kernel)
theorem D135_21 {g : im_g} : im_D g 135 21 (.laload) 22 := im_D.of (by decide +kernel)
theorem D135_22 {g : im_g} : im_D g 135 22 (.ldc2_w 25) 25 := im_D.of (by decide +kernel)
theorem D135_25 {g : im_g} : im_D g 135 25 (.lmul) 26 := im_D.of (by decide +kernel)
theorem D135_26 {g : im_g} : im_D g 135 26 (.aload_n 0) 27 := im_D.of (by decide +kernel)
theorem D135_27 {g : im_g} : im_D g 135 27 (.iload_n 1) 28 := im_D.of (by decide +kernel)
theorem D135_28 {g : im_g} : im_D g 135 28 (.iload_n 2) 29 := im_D.of (by decide +kernel)
theorem D135_29 {g : im_g} : im_D g 135 29 (.iadd) 30 := im_D.of (by decide +kernel)
theorem D135_30 {g : im_g} : im_D g 135 30 (.iconst 1) 31 := im_D.of (by decide +kernel)
theorem D135_31 {g : im_g} : im_D g 135 31 (.isub) 32 := im_D.of (by decide +kernel)
theorem D135_32 {g : im_g} : im_D g 135 32 (.laload) 33 := im_D.of (by decide +kernel)
theorem D135_33 {g : im_g} : im_D g 135 33 (.ladd) 34 := im_D.of (by decide +kernel)
theorem D135_34 {g : im_g} : im_D g 135 34 (.lstore 5) 36 := im_D.of (by decide +kernel)
theorem D135_36 {g : im_g} : im_D g 135 36 (.lload 5) 38 := im_D.of (by decide +kernel)
theorem D135_38 {g : im_g} : im_D g 135 38 (.lload_n 3) 39 := im_D.of (by decide +kernel)
theorem D135_39 {g : im_g} : im_D g 135 39 (.ldiv) 40 := im_D.of (by decide +kernel)
theorem D135_40 {g : im_g} : im_D g 135 40 (.ldc2_w 76) 43 := im_D.of (by decide +kernel)
theorem D135_43 {g : im_g} : im_D g 135 43 (.invokestatic 78) 46 := im_D.of (by decide +kernel)
theorem D135_46 {g : im_g} : im_D g 135 46 (.lstore 7) 48 := im_D.of (by decide +kernel)
theorem D135_48 {g : im_g} : im_D g 135 48 (.lconst 0) 49 := im_D.of (by decide +kernel)
theorem D135_49 {g : im_g} : im_D g 135 49 (.lstore 9) 51 := im_D.of (by decide +kernel)
theorem D135_51 {g : im_g} : im_D g 135 51 (.iconst 0) 52 := im_D.of (by decide +kernel)
theorem D135_52 {g : im_g} : im_D g 135 52 (.istore 11) 54 := im_D.of (by decide +kernel)
theorem D135_54 {g : im_g} : im_D g 135 54 (.iload 11) 56 := im_D.of (by decide +kernel)
theorem D135_56 {g : im_g} : im_D g 135 56 (.iload_n 2) 57 := im_D.of (by decide +kernel)
theorem D135_57 {g : im_g} : im_D g 135 57 (.if_icmp .ge 69) 60 := im_D.of (by decide +kernel)
theorem D135_60 {g : im_g} : im_D g 135 60 (.aload_n 0) 61 := im_D.of (by decide +kernel)
theorem D135_61 {g : im_g} : im_D g 135 61 (.iload_n 1) 62 := im_D.of (by decide +kernel)
theorem D135_62 {g : im_g} : im_D g 135 62 (.iload 11) 64 := im_D.of (by decide +kernel)
theorem D135_64 {g : im_g} : im_D g 135 64 (.iadd) 65 := im_D.of (by decide +kernel)
theorem D135_65 {g : im_g} : im_D g 135 65 (.laload) 66 := im_D.of (by decide +kernel)
theorem D135_66 {g : im_g} : im_D g 135 66 (.lload 7) 68 := im_D.of (by decide +kernel)
theorem D135_68 {g : im_g} : im_D g 135 68 (.aload_n 0) 69 := im_D.of (by decide +kernel)
theorem D135_69 {g : im_g} : im_D g 135 69 (.bipush 36) 71 := im_D.of (by decide +kernel)
theorem D135_71 {g : im_g} : im_D g 135 71 (.iload 11) 73 := im_D.of (by decide +kernel)
theorem D135_73 {g : im_g} : im_D g 135 73 (.iadd) 74 := im_D.of (by decide +kernel)
theorem D135_74 {g : im_g} : im_D g 135 74 (.laload) 75 := im_D.of (by decide +kernel)
theorem D135_75 {g : im_g} : im_D g 135 75 (.lmul) 76 := im_D.of (by decide +kernel)
theorem D135_76 {g : im_g} : im_D g 135 76 (.lsub) 77 := im_D.of (by decide +kernel)
theorem D135_77 {g : im_g} : im_D g 135 77 (.lload 9) 79 := im_D.of (by decide +kernel)
theorem D135_79 {g : im_g} : im_D g 135 79 (.lsub) 80 := im_D.of (by decide +kernel)
theorem D135_80 {g : im_g} : im_D g 135 80 (.lstore 12) 82 := im_D.of (by decide +kernel)
theorem D135_82 {g : im_g} : im_D g 135 82 (.lload 12) 84 := im_D.of (by decide +kernel)
theorem D135_84 {g : im_g} : im_D g 135 84 (.lconst 0) 85 := im_D.of (by decide +kernel)
theorem D135_85 {g : im_g} : im_D g 135 85 (.lcmp) 86 := im_D.of (by decide +kernel)
theorem D135_86 {g : im_g} : im_D g 135 86 (.ifCond .ge 16) 89 := im_D.of (by decide +kernel)
theorem D135_89 {g : im_g} : im_D g 135 89 (.ldc2_w 76) 92 := im_D.of (by decide +kernel)
theorem D135_92 {g : im_g} : im_D g 135 92 (.lload 12) 94 := im_D.of (by decide +kernel)
theorem D135_94 {g : im_g} : im_D g 135 94 (.lsub) 95 := im_D.of (by decide +kernel)
theorem D135_95 {g : im_g} : im_D g 135 95 (.ldc2_w 25) 98 := im_D.of (by decide +kernel)
theorem D135_98 {g : im_g} : im_D g 135 98 (.ldiv) 99 := im_D.of (by decide +kernel)
theorem D135_99 {g : im_g} : im_D g 135 99 (.goto 4) 102 := im_D.of (by decide +kernel)
theorem D135_102 {g : im_g} : im_D g 135 102 (.lconst 0) 103 := im_D.of (by decide +kernel)
theorem D135_103 {g : im_g} : im_D g 135 103 (.lstore 9) 105 := im_D.of (by decide +kernel)
theorem D135_105 {g : im_g} : im_D g 135 105 (.aload_n 0) 106 := im_D.of (by decide +kernel)
theorem D135_106 {g : im_g} : im_D g 135 106 (.iload_n 1) 107 := im_D.of (by decide +kernel)
theorem D135_107 {g : im_g} : im_D g 135 107 (.iload 11) 109 := im_D.of (by decide +kernel)
theorem D135_109 {g : im_g} : im_D g 135 109 (.iadd) 110 := im_D.of (by decide +kernel)
theorem D135_110 {g : im_g} : im_D g 135 110 (.lload 12) 112 := im_D.of (by decide +kernel)
theorem D135_112 {g : im_g} : im_D g 135 112 (.lload 9) 114 := im_D.of (by decide +kernel)
theorem D135_114 {g : im_g} : im_D g 135 114 (.ldc2_w 25) 117 := im_D.of (by decide +kernel)
theorem D135_117 {g : im_g} : im_D g 135 117 (.lmul) 118 := im_D.of (by decide +kernel)
theorem D135_118 {g : im_g} : im_D g 135 118 (.ladd) 119 := im_D.of (by decide +kernel)
theorem D135_119 {g : im_g} : im_D g 135 119 (.lastore) 120 := im_D.of (by decide +kernel)
theorem D135_120 {g : im_g} : im_D g 135 120 (.iinc 11 1) 123 := im_D.of (by decide +kernel)
theorem D135_123 {g : im_g} : im_D g 135 123 (.goto (-69)) 126 := im_D.of (by decide +kernel)
theorem D135_126 {g : im_g} : im_D g 135 126 (.aload_n 0) 127 := im_D.of (by decide +kernel)
theorem D135_127 {g : im_g} : im_D g 135 127 (.iload_n 1) 128 := im_D.of (by decide +kernel)
theorem D135_128 {g : im_g} : im_D g 135 128 (.iload_n 2) 129 := im_D.of (by decide +kernel)
theorem D135_129 {g : im_g} : im_D g 135 129 (.iadd) 130 := im_D.of (by decide +kernel)
theorem D135_130 {g : im_g} : im_D g 135 130 (.dup2) 131 := im_D.of (by decide +kernel)
theorem D135_131 {g : im_g} : im_D g 135 131 (.laload) 132 := im_D.of (by decide +kernel)
theorem D135_132 {g : im_g} : im_D g 135 132 (.lload 9) 134 := im_D.of (by decide +kernel)
theorem D135_134 {g : im_g} : im_D g 135 134 (.lsub) 135 := im_D.of (by decide +kernel)
theorem D135_135 {g : im_g} : im_D g 135 135 (.lastore) 136 := im_D.of (by decide +kernel)
theorem D135_136 {g : im_g} : im_D g 135 136 (.iconst 0) 137 := im_D.of (by decide +kernel)
theorem D135_137 {g : im_g} : im_D g 135 137 (.istore 11) 139 := im_D.of (by decide +kernel)
theorem D135_139 {g : im_g} : im_D g 135 139 (.iload 11) 141 := im_D.of (by decide +kernel)
theorem D135_141 {g : im_g} : im_D g 135 141 (.iconst 3) 142 := im_D.of (by decide +kernel)
theorem D135_142 {g : im_g} : im_D g 135 142 (.if_icmp .ge 103) 145 := im_D.of (by decide +kernel)
theorem D135_145 {g : im_g} : im_D g 135 145 (.aload_n 0) 146 := im_D.of (by decide +kernel)
theorem D135_146 {g : im_g} : im_D g 135 146 (.iload_n 1) 147 := im_D.of (by decide +kernel)
theorem D135_147 {g : im_g} : im_D g 135 147 (.iload_n 2) 148 := im_D.of (by decide +kernel)
theorem D135_148 {g : im_g} : im_D g 135 148 (.iadd) 149 := im_D.of (by decide +kernel)
theorem D135_149 {g : im_g} : im_D g 135 149 (.laload) 150 := im_D.of (by decide +kernel)
theorem D135_150 {g : im_g} : im_D g 135 150 (.lconst 0) 151 := im_D.of (by decide +kernel)
theorem D135_151 {g : im_g} : im_D g 135 151 (.lcmp) 152 := im_D.of (by decide +kernel)
theorem D135_152 {g : im_g} : im_D g 135 152 (.ifCond .ge 93) 155 := im_D.of (by decide +kernel)
theorem D135_155 {g : im_g} : im_D g 135 155 (.lload 7) 157 := im_D.of (by decide +kernel)
theorem D135_157 {g : im_g} : im_D g 135 157 (.lconst 1) 158 := im_D.of (by decide +kernel)
theorem D135_158 {g : im_g} : im_D g 135 158 (.lsub) 159 := im_D.of (by decide +kernel)
theorem D135_159 {g : im_g} : im_D g 135 159 (.lstore 7) 161 := im_D.of (by decide +kernel)
theorem D135_161 {g : im_g} : im_D g 135 161 (.lconst 0) 162 := im_D.of (by decide +kernel)
theorem D135_162 {g : im_g} : im_D g 135 162 (.lstore 12) 164 := im_D.of (by decide +kernel)
theorem D135_164 {g : im_g} : im_D g 135 164 (.iconst 0) 165 := im_D.of (by decide +kernel)
theorem D135_165 {g : im_g} : im_D g 135 165 (.istore 14) 167 := im_D.of (by decide +kernel)
theorem D135_167 {g : im_g} : im_D g 135 167 (.iload 14) 169 := im_D.of (by decide +kernel)
theorem D135_169 {g : im_g} : im_D g 135 169 (.iload_n 2) 170 := im_D.of (by decide +kernel)
theorem D135_170 {g : im_g} : im_D g 135 170 (.if_icmp .ge 59) 173 := im_D.of (by decide +kernel)
theorem D135_173 {g : im_g} : im_D g 135 173 (.aload_n 0) 174 := im_D.of (by decide +kernel)
theorem D135_174 {g : im_g} : im_D g 135 174 (.iload_n 1) 175 := im_D.of (by decide +kernel)
theorem D135_175 {g : im_g} : im_D g 135 175 (.iload 14) 177 := im_D.of (by decide +kernel)
theorem D135_177 {g : im_g} : im_D g 135 177 (.iadd) 178 := im_D.of (by decide +kernel)
theorem D135_178 {g : im_g} : im_D g 135 178 (.laload) 179 := im_D.of (by decide +kernel)
theorem D135_179 {g : im_g} : im_D g 135 179 (.aload_n 0) 180 := im_D.of (by decide +kernel)
theorem D135_180 {g : im_g} : im_D g 135 180 (.bipush 36) 182 := im_D.of (by decide +kernel)
theorem D135_182 {g : im_g} : im_D g 135 182 (.iload 14) 184 := im_D.of (by decide +kernel)
theorem D135_184 {g : im_g} : im_D g 135 184 (.iadd) 185 := im_D.of (by decide +kernel)
theorem D135_185 {g : im_g} : im_D g 135 185 (.laload) 186 := im_D.of (by decide +kernel)
theorem D135_186 {g : im_g} : im_D g 135 186 (.ladd) 187 := im_D.of (by decide +kernel)
theorem D135_187 {g : im_g} : im_D g 135 187 (.lload 12) 189 := im_D.of (by decide +kernel)
theorem D135_189 {g : im_g} : im_D g 135 189 (.ladd) 190 := im_D.of (by decide +kernel)
theorem D135_190 {g : im_g} : im_D g 135 190 (.lstore 15) 192 := im_D.of (by decide +kernel)
theorem D135_192 {g : im_g} : im_D g 135 192 (.lload 15) 194 := im_D.of (by decide +kernel)
theorem D135_194 {g : im_g} : im_D g 135 194 (.ldc2_w 25) 197 := im_D.of (by decide +kernel)
theorem D135_197 {g : im_g} : im_D g 135 197 (.lcmp) 198 := im_D.of (by decide +kernel)
theorem D135_198 {g : im_g} : im_D g 135 198 (.ifCond .lt 7) 201 := im_D.of (by decide +kernel)
theorem D135_201 {g : im_g} : im_D g 135 201 (.lconst 1) 202 := im_D.of (by decide +kernel)
theorem D135_202 {g : im_g} : im_D g 135 202 (.goto 4) 205 := im_D.of (by decide +kernel)
theorem D135_205 {g : im_g} : im_D g 135 205 (.lconst 0) 206 := im_D.of (by decide +kernel)
theorem D135_206 {g : im_g} : im_D g 135 206 (.lstore 12) 208 := im_D.of (by decide +kernel)
theorem D135_208 {g : im_g} : im_D g 135 208 (.aload_n 0) 209 := im_D.of (by decide +kernel)
theorem D135_209 {g : im_g} : im_D g 135 209 (.iload_n 1) 210 := im_D.of (by decide +kernel)
theorem D135_210 {g : im_g} : im_D g 135 210 (.iload 14) 212 := im_D.of (by decide +kernel)
theorem D135_212 {g : im_g} : im_D g 135 212 (.iadd) 213 := im_D.of (by decide +kernel)
theorem D135_213 {g : im_g} : im_D g 135 213 (.lload 15) 215 := im_D.of (by decide +kernel)
theorem D135_215 {g : im_g} : im_D g 135 215 (.lload 12) 217 := im_D.of (by decide +kernel)
theorem D135_217 {g : im_g} : im_D g 135 217 (.ldc2_w 25) 220 := im_D.of (by decide +kernel)
theorem D135_220 {g : im_g} : im_D g 135 220 (.lmul) 221 := im_D.of (by decide +kernel)
theorem D135_221 {g : im_g} : im_D g 135 221 (.lsub) 222 := im_D.of (by decide +kernel)
theorem D135_222 {g : im_g} : im_D g 135 222 (.lastore) 223 := im_D.of (by decide +kernel)
theorem D135_223 {g : im_g} : im_D g 135 223 (.iinc 14 1) 226 := im_D.of (by decide +kernel)
theorem D135_226 {g : im_g} : im_D g 135 226 (.goto (-59)) 229 := im_D.of (by decide +kernel)
theorem D135_229 {g : im_g} : im_D g 135 229 (.aload_n 0) 230 := im_D.of (by decide +kernel)
theorem D135_230 {g : im_g} : im_D g 135 230 (.iload_n 1) 231 := im_D.of (by decide +kernel)
theorem D135_231 {g : im_g} : im_D g 135 231 (.iload_n 2) 232 := im_D.of (by decide +kernel)
theorem D135_232 {g : im_g} : im_D g 135 232 (.iadd) 233 := im_D.of (by decide +kernel)
theorem D135_233 {g : im_g} : im_D g 135 233 (.dup2) 234 := im_D.of (by decide +kernel)
theorem D135_234 {g : im_g} : im_D g 135 234 (.laload) 235 := im_D.of (by decide +kernel)
theorem D135_235 {g : im_g} : im_D g 135 235 (.lload 12) 237 := im_D.of (by decide +kernel)
theorem D135_237 {g : im_g} : im_D g 135 237 (.ladd) 238 := im_D.of (by decide +kernel)
theorem D135_238 {g : im_g} : im_D g 135 238 (.lastore) 239 := im_D.of (by decide +kernel)
theorem D135_239 {g : im_g} : im_D g 135 239 (.iinc 11 1) 242 := im_D.of (by decide +kernel)
theorem D135_242 {g : im_g} : im_D g 135 242 (.goto (-103)) 245 := im_D.of (by decide +kernel)
theorem D135_245 {g : im_g} : im_D g 135 245 (.lload 7) 247 := im_D.of (by decide +kernel)
theorem D135_247 {g : im_g} : im_D g 135 247 (.lreturn) 248 := im_D.of (by decide +kernel)
theorem D136_0 {g : im_g} : im_D g 136 0 (.iload_n 0) 1 := im_D.of (by decide +kernel)
theorem D136_1 {g : im_g} : im_D g 136 1 (.tableswitch 71 21 24 #[31, 41, 51, 61]) 2 := im_D.of (by decide +kernel)
theorem D136_32 {g : im_g} : im_D g 136 32 (.iload_n 1) 33 := im_D.of (by decide +kernel)
theorem D136_33 {g : im_g} : im_D g 136 33 (.ifCond .lt 7) 36 := im_D.of (by decide +kernel)
theorem D136_36 {g : im_g} : im_D g 136 36 (.iconst 1) 37 := im_D.of (by decide +kernel)
theorem D136_37 {g : im_g} : im_D g 136 37 (.goto 4) 40 := im_D.of (by decide +kernel)
theorem D136_40 {g : im_g} : im_D g 136 40 (.iconst 0) 41 := im_D.of (by decide +kernel)
theorem D136_41 {g : im_g} : im_D g 136 41 (.ireturn) 42 := im_D.of (by decide +kernel)
theorem D136_42 {g : im_g} : im_D g 136 42 (.iload_n 1) 43 := im_D.of (by decide +kernel)
theorem D136_43 {g : im_g} : im_D g 136 43 (.ifCond .le 7) 46 := im_D.of (by decide +kernel)
theorem D136_46 {g : im_g} : im_D g 136 46 (.iconst 1) 47 := im_D.of (by decide +kernel)
theorem D136_47 {g : im_g} : im_D g 136 47 (.goto 4) 50 := im_D.of (by decide +kernel)
theorem D136_50 {g : im_g} : im_D g 136 50 (.iconst 0) 51 := im_D.of (by decide +kernel)
theorem D136_51 {g : im_g} : im_D g 136 51 (.ireturn) 52 := im_D.of (by decide +kernel)
theorem D136_52 {g : im_g} : im_D g 136 52 (.iload_n 1) 53 := im_D.of (by decide +kernel)
theorem D136_53 {g : im_g} : im_D g 136 53 (.ifCond .gt 7) 56 := im_D.of (by decide +kernel)
theorem D136_56 {g : im_g} : im_D g 136 56 (.iconst 1) 57 := im_D.of (by decide +kernel)
theorem D136_57 {g : im_g} : im_D g 136 57 (.goto 4) 60 := im_D.of (by decide +kernel)
theorem D136_60 {g : im_g} : im_D g 136 60 (.iconst 0) 61 := im_D.of (by decide +kernel)
theorem D136_61 {g : im_g} : im_D g 136 61 (.ireturn) 62 := im_D.of (by decide +kernel)
theorem D136_62 {g : im_g} : im_D g 136 62 (.iload_n 1) 63 := im_D.of (by decide +kernel)
theorem D136_63 {g : im_g} : im_D g 136 63 (.ifCond .ge 7) 66 := im_D.of (by decide +kernel)
theorem D136_66 {g : im_g} : im_D g 136 66 (.iconst 1) 67 := im_D.of (by decide +kernel)
theorem D136_67 {g : im_g} : im_D g 136 67 (.goto 4) 70 := im_D.of (by decide +kernel)
theorem D136_70 {g : im_g} : im_D g 136 70 (.iconst 0) 71 := im_D.of (by decide +kernel)
theorem D136_71 {g : im_g} : im_D g 136 71 (.ireturn) 72 := im_D.of (by decide +kernel)
theorem D136_72 {g : im_g} : im_D g 136 72 (.iload_n 1) 73 := im_D.of (by decide +kernel)
theorem D136_73 {g : im_g} : im_D g 136 73 (.ifCond .ne 7) 76 := im_D.of (by decide +kernel)
theorem D136_76 {g : im_g} : im_D g 136 76 (.iconst 1) 77 := im_D.of (by decide +kernel)
theorem D136_77 {g : im_g} : im_D g 136 77 (.goto 4) 80 := im_D.of (by decide +kernel)
theorem D136_80 {g : im_g} : im_D g 136 80 (.iconst 0) 81 := im_D.of (by decide +kernel)
theorem D136_81 {g : im_g} : im_D g 136 81 (.ireturn) 82 := im_D.of (by decide +kernel)
theorem D137_0 {g : im_g} : im_D g 137 0 (.aload_n 0) 1 := im_D.of (by decide +kernel)
theorem D137_1 {g : im_g} : im_D g 137 1 (.getfield 55) 4 := im_D.of (by decide +kernel)
theorem D137_4 {g : im_g} : im_D g 137 4 (.iload_n 1) 5 := im_D.of (by decide +kernel)
theorem D137_5 {g : im_g} : im_D g 137 5 (.invokevirtual 224) 8 := im_D.of (by decide +kernel)
theorem D137_8 {g : im_g} : im_D g 137 8 (.istore 4) 10 := im_D.of (by decide +kernel)
theorem D137_10 {g : im_g} : im_D g 137 10 (.aload_n 0) 11 := im_D.of (by decide +kernel)
theorem D137_11 {g : im_g} : im_D g 137 11 (.getfield 31) 14 := im_D.of (by decide +kernel)
theorem D137_14 {g : im_g} : im_D g 137 14 (.iload_n 2) 15 := im_D.of (by decide +kernel)
theorem D137_15 {g : im_g} : im_D g 137 15 (.iconst 2) 16 := im_D.of (by decide +kernel)
theorem D137_16 {g : im_g} : im_D g 137 16 (.if_icmp .ne 20) 19 := im_D.of (by decide +kernel)
theorem D137_19 {g : im_g} : im_D g 137 19 (.iload_n 3) 20 := im_D.of (by decide +kernel)
theorem D137_20 {g : im_g} : im_D g 137 20 (.ifCond .ne 16) 23 := im_D.of (by decide +kernel)
theorem D137_23 {g : im_g} : im_D g 137 23 (.aload_n 0) 24 := im_D.of (by decide +kernel)
theorem D137_24 {g : im_g} : im_D g 137 24 (.getfield 55) 27 := im_D.of (by decide +kernel)
theorem D137_27 {g : im_g} : im_D g 137 27 (.getfield 112) 30 := im_D.of (by decide +kernel)
theorem D137_30 {g : im_g} : im_D g 137 30 (.iload 4) 32 := im_D.of (by decide +kernel)
theorem D137_32 {g : im_g} : im_D g 137 32 (.iaload) 33 := im_D.of (by decide +kernel)
theorem D137_33 {g : im_g} : im_D g 137 33 (.goto 5) 36 := im_D.of (by decide +kernel)
theorem D137_36 {g : im_g} : im_D g 137 36 (.iload 4) 38 := im_D.of (by decide +kernel)
theorem D137_38 {g : im_g} : im_D g 137 38 (.putfield 183) 41 := im_D.of (by decide +kernel)
theorem D137_41 {g : im_g} : im_D g 137 41 (.iload_n 2) 42 := im_D.of (by decide +kernel)
theorem D137_42 {g : im_g} : im_D g 137 42 (.tableswitch 85 1 5 #[34, 85, 85, 40, 54]) 43 := im_D.of (by decide +kernel)
theorem D137_76 {g : im_g} : im_D g 137 76 (.aload_n 0) 77 := im_D.of (by decide +kernel)
theorem D137_77 {g : im_g} : im_D g 137 77 (.iload_n 1) 78 := im_D.of (by decide +kernel)
theorem D137_78 {g : im_g} : im_D g 137 78 (.invokevirtual 227) 81 := im_D.of (by decide +kernel)
theorem D137_81 {g : im_g} : im_D g 137 81 (.ireturn) 82 := im_D.of (by decide +kernel)
theorem D137_82 {g : im_g} : im_D g 137 82 (.aload_n 0) 83 := im_D.of (by decide +kernel)
theorem D137_83 {g : im_g} : im_D g 137 83 (.aload_n 0) 84 := im_D.of (by decide +kernel)
theorem D137_84 {g : im_g} : im_D g 137 84 (.getfield 55) 87 := im_D.of (by decide +kernel)
theorem D137_87 {g : im_g} : im_D g 137 87 (.getfield 68) 90 := im_D.of (by decide +kernel)
theorem D137_90 {g : im_g} : im_D g 137 90 (.iload_n 1) 91 := im_D.of (by decide +kernel)
theorem D137_91 {g : im_g} : im_D g 137 91 (.laload) 92 := im_D.of (by decide +kernel)
theorem D137_92 {g : im_g} : im_D g 137 92 (.invokevirtual 230) 95 := im_D.of (by decide +kernel)
theorem D137_95 {g : im_g} : im_D g 137 95 (.ireturn) 96 := im_D.of (by decide +kernel)
theorem D137_96 {g : im_g} : im_D g 137 96 (.iload_n 3) 97 := im_D.of (by decide +kernel)
theorem D137_97 {g : im_g} : im_D g 137 97 (.ifCond .ne 23) 100 := im_D.of (by decide +kernel)
theorem D137_100 {g : im_g} : im_D g 137 100 (.aload_n 0) 101 := im_D.of (by decide +kernel)
theorem D137_101 {g : im_g} : im_D g 137 101 (.getfield 52) 104 := im_D.of (by decide +kernel)
theorem D137_104 {g : im_g} : im_D g 137 104 (.iconst 5) 105 := im_D.of (by decide +kernel)
theorem D137_105 {g : im_g} : im_D g 137 105 (.lconst 0) 106 := im_D.of (by decide +kernel)
theorem D137_106 {g : im_g} : im_D g 137 106 (.lconst 0) 107 := im_D.of (by decide +kernel)
theorem D137_107 {g : im_g} : im_D g 137 107 (.lconst 0) 108 := im_D.of (by decide +kernel)
theorem D137_108 {g : im_g} : im_D g 137 108 (.aload_n 0) 109 := im_D.of (by decide +kernel)
theorem D137_109 {g : im_g} : im_D g 137 109 (.getfield 11) 112 := im_D.of (by decide +kernel)
theorem D137_112 {g : im_g} : im_D g 137 112 (.iconst 0) 113 := im_D.of (by decide +kernel)
theorem D137_113 {g : im_g} : im_D g 137 113 (.aaload) 114 := im_D.of (by decide +kernel)
theorem D137_114 {g : im_g} : im_D g 137 114 (.invokevirtual 234) 117 := im_D.of (by decide +kernel)
theorem D137_117 {g : im_g} : im_D g 137 117 (.ifCond .eq 7) 120 := im_D.of (by decide +kernel)
theorem D137_120 {g : im_g} : im_D g 137 120 (.iconst 0) 121 := im_D.of (by decide +kernel)
theorem D137_121 {g : im_g} : im_D g 137 121 (.goto 5) 124 := im_D.of (by decide +kernel)
theorem D137_124 {g : im_g} : im_D g 137 124 (.bipush (-9)) 126 := im_D.of (by decide +kernel)
theorem D137_126 {g : im_g} : im_D g 137 126 (.ireturn) 127 := im_D.of (by decide +kernel)
theorem D137_127 {g : im_g} : im_D g 137 127 (.iconst 0) 128 := im_D.of (by decide +kernel)
theorem D137_128 {g : im_g} : im_D g 137 128 (.ireturn) 129 := im_D.of (by decide +kernel)
theorem D138_0 {g : im_g} : im_D g 138 0 (.aload_n 0) 1 := im_D.of (by decide +kernel)
theorem D138_1 {g : im_g} : im_D g 138 1 (.getfield 9) 4 := im_D.of (by decide +kernel)
theorem D138_4 {g : im_g} : im_D g 138 4 (.iload_n 1) 5 := im_D.of (by decide +kernel)
theorem D138_5 {g : im_g} : im_D g 138 5 (.iaload) 6 := im_D.of (by decide +kernel)
theorem D138_6 {g : im_g} : im_D g 138 6 (.bipush 29) 8 := im_D.of (by decide +kernel)
theorem D138_8 {g : im_g} : im_D g 138 8 (.if_icmp .ne 9) 11 := im_D.of (by decide +kernel)
theorem D138_11 {g : im_g} : im_D g 138 11 (.iload_n 1) 12 := im_D.of (by decide +kernel)
theorem D138_12 {g : im_g} : im_D g 138 12 (.iconst 1) 13 := im_D.of (by decide +kernel)
theorem D138_13 {g : im_g} : im_D g 138 13 (.iadd) 14 := im_D.of (by decide +kernel)
theorem D138_14 {g : im_g} : im_D g 138 14 (.goto 11) 17 := im_D.of (by decide +kernel)
theorem D138_17 {g : im_g} : im_D g 138 17 (.aload_n 0) 18 := im_D.of (by decide +kernel)
theorem D138_18 {g : im_g} : im_D g 138 18 (.getfield 15) 21 := im_D.of (by decide +kernel)
theorem D138_21 {g : im_g} : im_D g 138 21 (.iload_n 1) 22 := im_D.of (by decide +kernel)
theorem D138_22 {g : im_g} : im_D g 138 22 (.iconst 1) 23 := im_D.of (by decide +kernel)
theorem D138_23 {g : im_g} : im_D g 138 23 (.iadd) 24 := im_D.of (by decide +kernel)
theorem D138_24 {g : im_g} : im_D g 138 24 (.iaload) 25 := im_D.of (by decide +kernel)
theorem D138_25 {g : im_g} : im_D g 138 25 (.ireturn) 26 := im_D.of (by decide +kernel)
theorem D139_0 {g : im_g} : im_D g 139 0 (.aload_n 0) 1 := im_D.of (by decide +kernel)
theorem D139_1 {g : im_g} : im_D g 139 1 (.getfield 55) 4 := im_D.of (by decide +kernel)
theorem D139_4 {g : im_g} : im_D g 139 4 (.getfield 68) 7 := im_D.of (by decide +kernel)
theorem D139_7 {g : im_g} : im_D g 139 7 (.iload_n 1) 8 := im_D.of (by decide +kernel)
theorem D139_8 {g : im_g} : im_D g 139 8 (.laload) 9 := im_D.of (by decide +kernel)
theorem D139_9 {g : im_g} : im_D g 139 9 (.lstore_n 2) 10 := im_D.of (by decide +kernel)
theorem D139_10 {g : im_g} : im_D g 139 10 (.aload_n 0) 11 := im_D.of (by decide +kernel)
theorem D139_11 {g : im_g} : im_D g 139 11 (.getfield 55) 14 := im_D.of (by decide +kernel)
theorem D139_14 {g : im_g} : im_D g 139 14 (.getfield 63) 17 := im_D.of (by decide +kernel)
theorem D139_17 {g : im_g} : im_D g 139 17 (.iload_n 1) 18 := im_D.of (by decide +kernel)
theorem D139_18 {g : im_g} : im_D g 139 18 (.laload) 19 := im_D.of (by decide +kernel)
theorem D139_19 {g : im_g} : im_D g 139 19 (.lstore 4) 21 := im_D.of (by decide +kernel)
theorem D139_21 {g : im_g} : im_D g 139 21 (.aload_n 0) 22 := im_D.of (by decide +kernel)
theorem D139_22 {g : im_g} : im_D g 139 22 (.getfield 55) 25 := im_D.of (by decide +kernel)
theorem D139_25 {g : im_g} : im_D g 139 25 (.getfield 218) 28 := im_D.of (by decide +kernel)
theorem D139_28 {g : im_g} : im_D g 139 28 (.iload_n 1) 29 := im_D.of (by decide +kernel)
theorem D139_29 {g : im_g} : im_D g 139 29 (.laload) 30 := im_D.of (by decide +kernel)
theorem D139_30 {g : im_g} : im_D g 139 30 (.lstore 6) 32 := im_D.of (by decide +kernel)
theorem D139_32 {g : im_g} : im_D g 139 32 (.aload_n 0) 33 := im_D.of (by decide +kernel)
theorem D139_33 {g : im_g} : im_D g 139 33 (.getfield 11) 36 := im_D.of (by decide +kernel)
theorem D139_36 {g : im_g} : im_D g 139 36 (.iconst 0) 37 := im_D.of (by decide +kernel)
theorem D139_37 {g : im_g} : im_D g 139 37 (.aaload) 38 := im_D.of (by decide +kernel)
theorem D139_38 {g : im_g} : im_D g 139 38 (.astore 8) 40 := im_D.of (by decide +kernel)
theorem D139_40 {g : im_g} : im_D g 139 40 (.aload_n 0) 41 := im_D.of (by decide +kernel)
theorem D139_41 {g : im_g} : im_D g 139 41 (.getfield 22) 44 := im_D.of (by decide +kernel)
theorem D139_44 {g : im_g} : im_D g 139 44 (.invokevirtual 241) 47 := im_D.of (by decide +kernel)
theorem D139_47 {g : im_g} : im_D g 139 47 (.aload 8) 49 := im_D.of (by decide +kernel)
theorem D139_49 {g : im_g} : im_D g 139 49 (.getfield 108) 52 := im_D.of (by decide +kernel)
theorem D139_52 {g : im_g} : im_D g 139 52 (.ifCond .gt 28) 55 := im_D.of (by decide +kernel)
theorem D139_55 {g : im_g} : im_D g 139 55 (.aload_n 0) 56 := im_D.of (by decide +kernel)
theorem D139_56 {g : im_g} : im_D g 139 56 (.getfield 52) 59 := im_D.of (by decide +kernel)
theorem D139_59 {g : im_g} : im_D g 139 59 (.iconst 2) 60 := im_D.of (by decide +kernel)
theorem D139_60 {g : im_g} : im_D g 139 60 (.lload_n 2) 61 := im_D.of (by decide +kernel)
theorem D139_61 {g : im_g} : im_D g 139 61 (.lload 4) 63 := im_D.of (by decide +kernel)
theorem D139_63 {g : im_g} : im_D g 139 63 (.lload 6) 65 := im_D.of (by decide +kernel)
theorem D139_65 {g : im_g} : im_D g 139 65 (.aload 8) 67 := im_D.of (by decide +kernel)
theorem D139_67 {g : im_g} : im_D g 139 67 (.invokevirtual 234) 70 := im_D.of (by decide +kernel)
theorem D139_70 {g : im_g} : im_D g 139 70 (.ifCond .eq 7) 73 := im_D.of (by decide +kernel)
theorem D139_73 {g : im_g} : im_D g 139 73 (.iconst 0) 74 := im_D.of (by decide +kernel)
theorem D139_74 {g : im_g} : im_D g 139 74 (.goto 5) 77 := im_D.of (by decide +kernel)
theorem D139_77 {g : im_g} : im_D g 139 77 (.bipush (-9)) 79 := im_D.of (by decide +kernel)
theorem D139_79 {g : im_g} : im_D g 139 79 (.ireturn) 80 := im_D.of (by decide +kernel)
theorem D139_80 {g : im_g} : im_D g 139 80 (.aload_n 0) 81 := im_D.of (by decide +kernel)
theorem D139_81 {g : im_g} : im_D g 139 81 (.getfield 31) 84 := im_D.of (by decide +kernel)
theorem D139_84 {g : im_g} : im_D g 139 84 (.getfield 145) 87 := im_D.of (by decide +kernel)
theorem D139_87 {g : im_g} : im_D g 139 87 (.lload_n 2) 88 := im_D.of (by decide +kernel)
theorem D139_88 {g : im_g} : im_D g 139 88 (.lload 6) 90 := im_D.of (by decide +kernel)
theorem D139_90 {g : im_g} : im_D g 139 90 (.invokevirtual 71) 93 := im_D.of (by decide +kernel)
theorem D139_93 {g : im_g} : im_D g 139 93 (.astore 9) 95 := im_D.of (by decide +kernel)
theorem D139_95 {g : im_g} : im_D g 139 95 (.aload 9) 97 := im_D.of (by decide +kernel)
theorem D139_97 {g : im_g} : im_D g 139 97 (.aload 8) 99 := im_D.of (by decide +kernel)
theorem D139_99 {g : im_g} : im_D g 139 99 (.invokevirtual 127) 102 := im_D.of (by decide +kernel)
theorem D139_102 {g : im_g} : im_D g 139 102 (.ifCond .lt 7) 105 := im_D.of (by decide +kernel)
theorem D139_105 {g : im_g} : im_D g 139 105 (.iconst 1) 106 := im_D.of (by decide +kernel)
theorem D139_106 {g : im_g} : im_D g 139 106 (.goto 4) 109 := im_D.of (by decide +kernel)
theorem D139_109 {g : im_g} : im_D g 139 109 (.iconst 0) 110 := im_D.of (by decide +kernel)
theorem D139_110 {g : im_g} : im_D g 139 110 (.istore 10) 112 := im_D.of (by decide +kernel)
theorem D139_112 {g : im_g} : im_D g 139 112 (.aload_n 0) 113 := im_D.of (by decide +kernel)
theorem D139_113 {g : im_g} : im_D g 139 113 (.getfield 22) 116 := im_D.of (by decide +kernel)
theorem D139_116 {g : im_g} : im_D g 139 116 (.iload 10) 118 := im_D.of (by decide +kernel)
theorem D139_118 {g : im_g} : im_D g 139 118 (.ifCond .eq 8) 121 := im_D.of (by decide +kernel)
theorem D139_121 {g : im_g} : im_D g 139 121 (.aload 8) 123 := im_D.of (by decide +kernel)
theorem D139_123 {g : im_g} : im_D g 139 123 (.goto 5) 126 := im_D.of (by decide +kernel)
theorem D139_126 {g : im_g} : im_D g 139 126 (.aload 9) 128 := im_D.of (by decide +kernel)
theorem D139_128 {g : im_g} : im_D g 139 128 (.invokevirtual 141) 131 := im_D.of (by decide +kernel)
theorem D139_131 {g : im_g} : im_D g 139 131 (.iload 10) 133 := im_D.of (by decide +kernel)
theorem D139_133 {g : im_g} : im_D g 139 133 (.ifCond .ne 21) 136 := im_D.of (by decide +kernel)
theorem D139_136 {g : im_g} : im_D g 139 136 (.aload_n 0) 137 := im_D.of (by decide +kernel)
theorem D139_137 {g : im_g} : im_D g 139 137 (.getfield 52) 140 := im_D.of (by decide +kernel)
theorem D139_140 {g : im_g} : im_D g 139 140 (.iconst 3) 141 := im_D.of (by decide +kernel)
theorem D139_141 {g : im_g} : im_D g 139 141 (.lload_n 2) 142 := im_D.of (by decide +kernel)
theorem D139_142 {g : im_g} : im_D g 139 142 (.lload 4) 144 := im_D.of (by decide +kernel)
theorem D139_144 {g : im_g} : im_D g 139 144 (.lload 6) 146 := im_D.of (by decide +kernel)
theorem D139_146 {g : im_g} : im_D g 139 146 (.aload 8) 148 := im_D.of (by decide +kernel)
theorem D139_148 {g : im_g} : im_D g 139 148 (.invokevirtual 234) 151 := im_D.of (by decide +kernel)
theorem D139_151 {g : im_g} : im_D g 139 151 (.ifCond .eq 7) 154 := im_D.of (by decide +kernel)
theorem D139_154 {g : im_g} : im_D g 139 154 (.iconst 0) 155 := im_D.of (by decide +kernel)
theorem D139_155 {g : im_g} : im_D g 139 155 (.goto 5) 158 := im_D.of (by decide +kernel)
theorem D139_158 {g : im_g} : im_D g 139 158 (.bipush (-9)) 160 := im_D.of (by decide +kernel)
theorem D139_160 {g : im_g} : im_D g 139 160 (.ireturn) 161 := im_D.of (by decide +kernel)
theorem D140_0 {g : im_g} : im_D g 140 0 (.aload_n 0) 1 := im_D.of (by decide +kernel)
theorem D140_1 {g : im_g} : im_D g 140 1 (.getfield 31) 4 := im_D.of (by decide +kernel)
theorem D140_4 {g : im_g} : im_D g 140 4 (.getfield 151) 7 := im_D.of (by decide +kernel)
theorem D140_7 {g : im_g} : im_D g 140 7 (.lload_n 1) 8 := im_D.of (by decide +kernel)
theorem D140_8 {g : im_g} : im_D g 140 8 (.lconst 0) 9 := im_D.of (by decide +kernel)
theorem D140_9 {g : im_g} : im_D g 140 9 (.invokevirtual 158) 12 := im_D.of (by decide +kernel)
theorem D140_12 {g : im_g} : im_D g 140 12 (.istore_n 3) 13 := im_D.of (by decide +kernel)
theorem D140_13 {g : im_g} : im_D g 140 13 (.iload_n 3) 14 := im_D.of (by decide +kernel)
theorem D140_14 {g : im_g} : im_D g 140 14 (.ifCond .lt 32) 17 := im_D.of (by decide +kernel)
theorem D140_17 {g : im_g} : im_D g 140 17 (.aload_n 0) 18 := im_D.of (by decide +kernel)
theorem D140_18 {g : im_g} : im_D g 140 18 (.getfield 52) 21 := im_D.of (by decide +kernel)
theorem D140_21 {g : im_g} : im_D g 140 21 (.iconst 4) 22 := im_D.of (by decide +kernel)
theorem D140_22 {g : im_g} : im_D g 140 22 (.lload_n 1) 23 := im_D.of (by decide +kernel)
theorem D140_23 {g : im_g} : im_D g 140 23 (.lconst 0) 24 := im_D.of (by decide +kernel)
theorem D140_24 {g : im_g} : im_D g 140 24 (.lconst 0) 25 := im_D.of (by decide +kernel)
theorem D140_25 {g : im_g} : im_D g 140 25 (.aload_n 0) 26 := im_D.of (by decide +kernel)
theorem D140_26 {g : im_g} : im_D g 140 26 (.getfield 31) 29 := im_D.of (by decide +kernel)
theorem D140_29 {g : im_g} : im_D g 140 29 (.getfield 151) 32 := im_D.of (by decide +kernel)
theorem D140_32 {g : im_g} : im_D g 140 32 (.getfield 208) 35 := im_D.of (by decide +kernel)
theorem D140_35 {g : im_g} : im_D g 140 35 (.iload_n 3) 36 := im_D.of (by decide +kernel)
theorem D140_36 {g : im_g} : im_D g 140 36 (.aaload) 37 := im_D.of (by decide +kernel)
theorem D140_37 {g : im_g} : im_D g 140 37 (.invokevirtual 234) 40 := im_D.of (by decide +kernel)
theorem D140_40 {g : im_g} : im_D g 140 40 (.ifCond .ne 6) 43 := im_D.of (by decide +kernel)
theorem D140_43 {g : im_g} : im_D g 140 43 (.bipush (-9)) 45 := im_D.of (by decide +kernel)
theorem D140_45 {g : im_g} : im_D g 140 45 (.ireturn) 46 := im_D.of (by decide +kernel)
theorem D140_46 {g : im_g} : im_D g 140 46 (.aload_n 0) 47 := im_D.of (by decide +kernel)
theorem D140_47 {g : im_g} : im_D g 140 47 (.getfield 31) 50 := im_D.of (by decide +kernel)
theorem D140_50 {g : im_g} : im_D g 140 50 (.getfield 151) 53 := im_D.of (by decide +kernel)
theorem D140_53 {g : im_g} : im_D g 140 53 (.lload_n 1) 54 := im_D.of (by decide +kernel)
theorem D140_54 {g : im_g} : im_D g 140 54 (.lconst 0) 55 := im_D.of (by decide +kernel)
theorem D140_55 {g : im_g} : im_D g 140 55 (.aload_n 0) 56 := im_D.of (by decide +kernel)
theorem D140_56 {g : im_g} : im_D g 140 56 (.getfield 11) 59 := im_D.of (by decide +kernel)
theorem D140_59 {g : im_g} : im_D g 140 59 (.iconst 0) 60 := im_D.of (by decide +kernel)
theorem D140_60 {g : im_g} : im_D g 140 60 (.aaload) 61 := im_D.of (by decide +kernel)
theorem D140_61 {g : im_g} : im_D g 140 61 (.invokevirtual 237) 64 := im_D.of (by decide +kernel)
theorem D140_64 {g : im_g} : im_D g 140 64 (.ifCond .eq 7) 67 := im_D.of (by decide +kernel)
theorem D140_67 {g : im_g} : im_D g 140 67 (.iconst 0) 68 := im_D.of (by decide +kernel)
theorem D140_68 {g : im_g} : im_D g 140 68 (.goto 5) 71 := im_D.of (by decide +kernel)
theorem D140_71 {g : im_g} : im_D g 140 71 (.bipush (-9)) 73 := im_D.of (by decide +kernel)
theorem D140_73 {g : im_g} : im_D g 140 73 (.ireturn) 74 := im_D.of (by decide +kernel)
theorem D141_0 {g : im_g} : im_D g 141 0 (.aload_n 0) 1 := im_D.of (by decide +kernel)
theorem D141_1 {g : im_g} : im_D g 141 1 (.lload_n 1) 2 := im_D.of (by decide +kernel)
theorem D141_2 {g : im_g} : im_D g 141 2 (.lload_n 3) 3 := im_D.of (by decide +kernel)
theorem D141_3 {g : im_g} : im_D g 141 3 (.invokevirtual 43) 6 := im_D.of (by decide +kernel)
theorem D141_6 {g : im_g} : im_D g 141 6 (.istore 6) 8 := im_D.of (by decide +kernel)
theorem D141_8 {g : im_g} : im_D g 141 8 (.iload 6) 10 := im_D.of (by decide +kernel)
theorem D141_10 {g : im_g} : im_D g 141 10 (.ifCond .ge 22) 13 := im_D.of (by decide +kernel)
theorem D141_13 {g : im_g} : im_D g 141 13 (.iconst (-1)) 14 := im_D.of (by decide +kernel)
theorem D141_14 {g : im_g} : im_D g 141 14 (.iload 6) 16 := im_D.of (by decide +kernel)
theorem D141_16 {g : im_g} : im_D g 141 16 (.isub) 17 := im_D.of (by decide +kernel)
theorem D141_17 {g : im_g} : im_D g 141 17 (.istore 6) 19 := im_D.of (by decide +kernel)
theorem D141_19 {g : im_g} : im_D g 141 19 (.aload_n 0) 20 := im_D.of (by decide +kernel)
theorem D141_20 {g : im_g} : im_D g 141 20 (.iload 6) 22 := im_D.of (by decide +kernel)
theorem D141_22 {g : im_g} : im_D g 141 22 (.lload_n 1) 23 := im_D.of (by decide +kernel)
theorem D141_23 {g : im_g} : im_D g 141 23 (.lload_n 3) 24 := im_D.of (by decide +kernel)
theorem D141_24 {g : im_g} : im_D g 141 24 (.invokevirtual 47) 27 := im_D.of (by decide +kernel)
theorem D141_27 {g : im_g} : im_D g 141 27 (.ifCond .ne 5) 30 := im_D.of (by decide +kernel)
theorem D141_30 {g : im_g} : im_D g 141 30 (.iconst 0) 31 := im_D.of (by decide +kernel)
theorem D141_31 {g : im_g} : im_D g 141 31 (.ireturn) 32 := im_D.of (by decide +kernel)
theorem D141_32 {g : im_g} : im_D g 141 32 (.aload_n 0) 33 := im_D.of (by decide +kernel)
theorem D141_33 {g : im_g} : im_D g 141 33 (.getfield 25) 36 := im_D.of (by decide +kernel)
theorem D141_36 {g : im_g} : im_D g 141 36 (.iload 6) 38 := im_D.of (by decide +kernel)
theorem D141_38 {g : im_g} : im_D g 141 38 (.aaload) 39 := im_D.of (by decide +kernel)
theorem D141_39 {g : im_g} : im_D g 141 39 (.aload 5) 41 := im_D.of (by decide +kernel)
theorem D141_41 {g : im_g} : im_D g 141 41 (.invokevirtual 39) 44 := im_D.of (by decide +kernel)
theorem D141_44 {g : im_g} : im_D g 141 44 (.iconst 1) 45 := im_D.of (by decide +kernel)
theorem D141_45 {g : im_g} : im_D g 141 45 (.ireturn) 46 := im_D.of (by decide +kernel)
set_option maxRecDepth 20000 in
set_option maxHeartbeats 4000000 in
theorem k_Num_divideLong_0 {g : im_g} {d : Nat} {e : im_E} {M : im_M} {K : im_K} {a0 : Nat} (ha0 : im_num e a0) {p1 : Nat} (hp1 : im_num e p1) (hd : 1 ≤ d) (hP : (0 ≤ ((M p1 1) - 1) ∧ ((M p1 1) - 1) < 34) ∧ (im_i64 ((M (p1 + 1) ((M p1 1) - 1)) + 1)) ∧ (¬ (max 1 ((M (p1 + 1) ((M p1 1) - 1)) + 1)) = 0) ∧ im_T g (d - 1) 134 0 [some (.ref a0), some (vL (Int.tdiv 1000000000 (max 1 ((M (p1 + 1) ((M p1 1) - 1)) + 1)))), none, some (.ref 933), some (vI 0), none, none, none, none, none] [] e M (im_r0 (fun  e_ M6 => e = e_ ∧ im_T g (d - 1) 134 0 [some (.ref p1), some (vL (Int.tdiv 1000000000 (max 1 ((M (p1 + 1) ((M p1 1) - 1)) + 1)))), none, some (.ref 933), some (vI 36), none, none, none, none, none] [] e M6 (im_r0 (fun  e_ M7 => e = e_ ∧ im_T g d 133 55 [some (.ref a0), none, some (.ref 933), some (vI (M p1 1)), none, none, some (vI ((M7 a0 1) - (M p1 1))), some (vI ((M7 a0 1) - (M p1 1)))] [] e M7 K))))) : im_T g d 133 0 [some (.ref a0), some (.ref p1), some (.ref 933), none, none, none, none, none] [] e M K := by
  refine im_ld (q := 1) (i := 1) D133_0 rfl rfl rfl ?_
  refine im_rng (j := 1) hp1.1 (by decide) (show (1 : Int) < ((3 : Nat) : Int) by decide) (fun hr1 => ?_)
  refine im_gfI (q := 4) D133_1 (im_fl cn_133 fl_3_19) hp1.1 rfl rfl tI_3_1 rfl ?_
  refine im_st1 (q := 5) (i := 3) (L' := [some (.ref a0), some (.ref p1), some (.ref 933), some (vI (M p1 1)), none, none, none, none]) D133_4 (Or.inl ⟨_, rfl, rfl⟩) (Nat.le_of_ble_eq_true rfl) rfl ?_
  refine im_ldc2 (q := 8) (n := 1000000000) D133_5 rfl ?_
  refine im_lconst (q := 9) (z := 1) D133_8 rfl ?_
  refine im_ld (q := 10) (i := 1) D133_9 rfl rfl rfl ?_
  refine im_gfR (q := 13) (b := (p1 + 1)) D133_10 (im_fl cn_133 fl_3_9) hp1.1 rfl rfl tR_3_2 rfl ?_
  refine im_ld (q := 14) (i := 3) D133_13 rfl rfl rfl ?_
  refine im_iconst (q := 15) D133_14 ?_
  refine im_isub (q := 16) D133_15 ?_
  obtain ⟨hg2, hP⟩ := hP
  refine im_rng (j := ((M p1 1) - 1)) hp1.2 hg2.1 hg2.2 (fun hr3 => ?_)
  refine im_iald (q := 17) D133_16 hp1.2 hg2.1 hg2.2 (by decide) rfl ?_
  refine im_i2l (q := 18) D133_17 hr3 ?_
  refine im_lconst (q := 19) (z := 1) D133_18 rfl ?_
  refine im_ladd (q := 20) D133_19 ?_
  obtain ⟨hg4, hP⟩ := hP
  refine im_lmax (q := 23) D133_20 rfl (by decide) hg4 rfl ?_
  obtain ⟨hg5, hP⟩ := hP
  refine im_ldiv (q := 24) D133_23 (by decide) (im_maxrL (by decide) hg4) hg5 ?_
  refine im_st2 (q := 26) (i := 4) (L' := [some (.ref a0), some (.ref p1), some (.ref 933), some (vI (M p1 1)), some (vL (Int.tdiv 1000000000 (max 1 ((M (p1 + 1) ((M p1 1) - 1)) + 1)))), none, none, none]) D133_24 (Or.inr rfl) (Nat.le_of_ble_eq_true rfl) rfl ?_
  refine im_ld (q := 27) (i := 0) D133_26 rfl rfl rfl ?_
  refine im_ld (q := 29) (i := 4) D133_27 rfl rfl rfl ?_
  refine im_ld (q := 30) (i := 2) D133_29 rfl rfl rfl ?_
  refine im_iconst (q := 31) D133_30 ?_
  refine im_callS (q := 34) (kd := 0) (y := 134) (n := 4) (z := 3) (vs := [.ref a0, vL (Int.tdiv 1000000000 (max 1 ((M (p1 + 1) ((M p1 1) - 1)) + 1))), .ref 933, vI 0]) (r := []) (L2 := [some (.ref a0), some (vL (Int.tdiv 1000000000 (max 1 ((M (p1 + 1) ((M p1 1) - 1)) + 1)))), none, some (.ref 933), some (vI 0), none, none, none, none, none]) D133_31 rfl (im_cal cn_133 cl_3_68) (Or.inl rfl) rfl rfl rfl rfl rfl hd ⟨rfl, rfl, rfl, rfl, trivial⟩ ?_
  refine hP.mono ?_
  rintro _ e10 M6 ⟨rfl, rfl, hP⟩
  refine im_bkN ?_
  refine im_ld (q := 35) (i := 1) D133_34 rfl rfl rfl ?_
  refine im_ld (q := 37) (i := 4) D133_35 rfl rfl rfl ?_
  refine im_ld (q := 38) (i := 2) D133_37 rfl rfl rfl ?_
  refine im_bipush (q := 40) D133_38 rfl ?_
  refine im_callS (q := 43) (kd := 0) (y := 134) (n := 4) (z := 3) (vs := [.ref p1, vL (Int.tdiv 1000000000 (max 1 ((M (p1 + 1) ((M p1 1) - 1)) + 1))), .ref 933, vI 36]) (r := []) (L2 := [some (.ref p1), some (vL (Int.tdiv 1000000000 (max 1 ((M (p1 + 1) ((M p1 1) - 1)) + 1)))), none, some (.ref 933), some (vI 36), none, none, none, none, none]) D133_40 rfl (im_cal cn_133 cl_3_68) (Or.inl rfl) rfl rfl rfl rfl rfl hd ⟨rfl, rfl, rfl, rfl, trivial⟩ ?_
  refine hP.mono ?_
  rintro _ e9 M7 ⟨rfl, rfl, hP⟩
  refine im_bkN ?_
  refine im_ld (q := 44) (i := 0) D133_43 rfl rfl rfl ?_
  refine im_rng (j := 1) ha0.1 (by decide) (show (1 : Int) < ((3 : Nat) : Int) by decide) (fun hr8 => ?_)
  refine im_gfI (q := 47) D133_44 (im_fl cn_133 fl_3_19) ha0.1 rfl rfl tI_3_1 rfl ?_
  refine im_ld (q := 48) (i := 3) D133_47 rfl rfl rfl ?_
  refine im_isub (q := 49) D133_48 ?_
  refine im_st1 (q := 51) (i := 6) (L' := [some (.ref a0), some (.ref p1), some (.ref 933), some (vI (M p1 1)), some (vL (Int.tdiv 1000000000 (max 1 ((M (p1 + 1) ((M p1 1) - 1)) + 1)))), none, some (vI ((M7 a0 1) - (M p1 1))), none]) D133_49 (Or.inr rfl) (Nat.le_of_ble_eq_true rfl) rfl ?_
  refine im_ld (q := 53) (i := 6) D133_51 rfl rfl rfl ?_
  refine im_st1 (q := 55) (i := 7) (L' := [some (.ref a0), some (.ref p1), some (.ref 933), some (vI (M p1 1)), some (vL (Int.tdiv 1000000000 (max 1 ((M (p1 + 1) ((M p1 1) - 1)) + 1)))), none, some (vI ((M7 a0 1) - (M p1 1))), some (vI ((M7 a0 1) - (M p1 1)))]) D133_53 (Or.inr rfl) (Nat.le_of_ble_eq_true rfl) rfl ?_
  exact hP.wk ⟨rfl, rfl, rfl, rfl, rfl, trivial⟩
set_option maxRecDepth 20000 in
set_option maxHeartbeats 4000000 in
theorem k_Num_divideLong_55 {g : im_g} {d : Nat} {e : im_E} {M : im_M} {K : im_K} {p3 p6 p7 : Int} {a0 : Nat} (ha0 : im_num e a0) (hd : 1 ≤ d) (hP : (im_i32 p7) ∧ ((p7 < 0 → (im_i32 (p6 + 1)) ∧ K (.inl none) e (im_u M a0 1 (p6 + 1))) ∧ (0 ≤ p7 → im_T g (d - 1) 135 0 [some (.ref 933), some (vI p7), some (vI p3), none, none, none, none, none, none, none, none, none, none, none, none, none, none] [] e M (im_rl (fun x5 e_ M4 => e = e_ ∧ (0 ≤ p7 ∧ p7 < 34) ∧ (im_i32 x5) ∧ im_T g d 133 55 [some (.ref a0), none, some (.ref 933), some (vI p3), none, none, some (vI p6), some (vI (p7 + (-1)))] [] e (im_u M4 (a0 + 1) p7 x5) K))))) : im_T g d 133 55 [some (.ref a0), none, some (.ref 933), some (vI p3), none, none, some (vI p6), some (vI p7)] [] e M K := by
  refine im_ld (q := 57) (i := 7) D133_55 rfl rfl rfl ?_
  obtain ⟨hg1, hP⟩ := hP
  refine im_ifc (q := 60) (t := 81) D133_57 rfl hg1 (fun hc2 => ?_) (fun hc2 => ?_)
  · replace hP := hP.1 hc2
    refine im_ld (q := 82) (i := 0) D133_81 rfl rfl rfl ?_
    refine im_ld (q := 84) (i := 6) D133_82 rfl rfl rfl ?_
    refine im_iconst (q := 85) D133_84 ?_
    refine im_iadd (q := 86) D133_85 ?_
    obtain ⟨hg3, hP⟩ := hP
    refine im_pfI (q := 89) D133_86 (im_fl cn_133 fl_3_19) ha0.1 rfl rfl ti_3_1 hg3 ?_
    exact im_vret (q := 90) D133_89 rfl hP
  · replace hP := hP.2 (Int.not_lt.mp hc2)
    refine im_ld (q := 61) (i := 0) D133_60 rfl rfl rfl ?_
    refine im_gfR (q := 64) (b := (a0 + 1)) D133_61 (im_fl cn_133 fl_3_9) ha0.1 rfl rfl tR_3_2 rfl ?_
    refine im_ld (q := 66) (i := 7) D133_64 rfl rfl rfl ?_
    refine im_ld (q := 67) (i := 2) D133_66 rfl rfl rfl ?_
    refine im_ld (q := 69) (i := 7) D133_67 rfl rfl rfl ?_
    refine im_ld (q := 70) (i := 3) D133_69 rfl rfl rfl ?_
    refine im_callS (q := 73) (kd := 0) (y := 135) (n := 3) (z := 3) (vs := [.ref 933, vI p7, vI p3]) (r := [vI p7, .ref (a0 + 1)]) (L2 := [some (.ref 933), some (vI p7), some (vI p3), none, none, none, none, none, none, none, none, none, none, none, none, none, none]) D133_70 rfl (im_cal cn_133 cl_3_72) (Or.inl rfl) rfl rfl rfl rfl rfl hd ⟨rfl, rfl, rfl, trivial⟩ ?_
    refine hP.mono ?_
    rintro _ e8 M4 ⟨x5, rfl, rfl, hP⟩
    refine im_bkS ?_
    refine im_l2i (q := 74) D133_73 ?_
    obtain ⟨hg6, hP⟩ := hP
    obtain ⟨hg7, hP⟩ := hP
    refine im_iast (q := 75) D133_74 ha0.2 hg6.1 hg6.2 (by decide) hg7 ?_
    refine im_iinc (q := 78) (i := 7) (L' := [some (.ref a0), none, some (.ref 933), some (vI p3), none, none, some (vI p6), some (vI (p7 + (-1)))]) D133_75 rfl (Nat.le_of_ble_eq_true rfl) rfl ?_
    refine im_goto (q := 81) (t := 55) D133_78 rfl ?_
    exact hP.wk ⟨rfl, rfl, rfl, rfl, rfl, trivial⟩
set_option maxRecDepth 20000 in
set_option maxHeartbeats 4000000 in
theorem k_Num_scaleInto_0 {g : im_g} {d : Nat} {e : im_E} {M : im_M} {K : im_K} {p1 p4 : Int} {p0 : Nat} (hp0 : im_num e p0) (hP : im_T g d 134 6 [some (.ref p0), some (vL p1), none, some (.ref 933), some (vI p4), some (vL 0), none, some (vI 0), none, none] [] e M K) : im_T g d 134 0 [some (.ref p0), some (vL p1), none, some (.ref 933), some (vI p4), none, none, none, none, none] [] e M K := by
  refine im_lconst (q := 1) (z := 0) D134_0 rfl ?_
  refine im_st2 (q := 3) (i := 5) (L' := [some (.ref p0), some (vL p1), none, some (.ref 933), some (vI p4), some (vL 0), none, none, none, none]) D134_1 (Or.inr rfl) (Nat.le_of_ble_eq_true rfl) rfl ?_
  refine im_iconst (q := 4) D134_3 ?_
  refine im_st1 (q := 6) (i := 7) (L' := [some (.ref p0), some (vL p1), none, some (.ref 933), some (vI p4), some (vL 0), none, some (vI 0), none, none]) D134_4 (Or.inr rfl) (Nat.le_of_ble_eq_true rfl) rfl ?_
  exact hP.wk ⟨rfl, rfl, rfl, rfl, rfl, rfl, trivial⟩
set_option maxRecDepth 20000 in
set_option maxHeartbeats 4000000 in
theorem k_Num_scaleInto_6 {g : im_g} {d : Nat} {e : im_E} {M : im_M} {K : im_K} {p1 p4 p5 p7 : Int} {p0 : Nat} (hp0 : im_num e p0) (hP : (im_i32 p7) ∧ (((M p0 1) ≤ p7 → (0 ≤ (p4 + (M p0 1)) ∧ (p4 + (M p0 1)) < 72) ∧ (im_i64 p5) ∧ K (.inl none) e (im_u M 933 (p4 + (M p0 1)) p5)) ∧ (p7 < (M p0 1) → (0 ≤ p7 ∧ p7 < 34) ∧ (im_i64 (((M (p0 + 1) p7) * p1) + p5)) ∧ (0 ≤ (p4 + p7) ∧ (p4 + p7) < 72) ∧ (im_i64 ((((M (p0 + 1) p7) * p1) + p5).tmod 1000000000)) ∧ im_T g d 134 6 [some (.ref p0), some (vL p1), none, some (.ref 933), some (vI p4), some (vL ((((M (p0 + 1) p7) * p1) + p5).tdiv 1000000000)), none, some (vI (p7 + 1)), none, none] [] e (im_u M 933 (p4 + p7) ((((M (p0 + 1) p7) * p1) + p5).tmod 1000000000)) K))) : im_T g d 134 6 [some (.ref p0), some (vL p1), none, some (.ref 933), some (vI p4), some (vL p5), none, some (vI p7), none, none] [] e M K := by
  refine im_ld (q := 8) (i := 7) D134_6 rfl rfl rfl ?_
  refine im_ld (q := 9) (i := 0) D134_8 rfl rfl rfl ?_
  refine im_rng (j := 1) hp0.1 (by decide) (show (1 : Int) < ((3 : Nat) : Int) by decide) (fun hr1 => ?_)
  refine im_gfI (q := 12) D134_9 (im_fl cn_134 fl_3_19) hp0.1 rfl rfl tI_3_1 rfl ?_
  obtain ⟨hg2, hP⟩ := hP
  refine im_icmp (q := 15) (t := 57) D134_12 rfl hg2 hr1 (fun hc3 => ?_) (fun hc3 => ?_)
  · replace hP := hP.1 hc3
    refine im_ld (q := 58) (i := 3) D134_57 rfl rfl rfl ?_
    refine im_ld (q := 60) (i := 4) D134_58 rfl rfl rfl ?_
    refine im_ld (q := 61) (i := 0) D134_60 rfl rfl rfl ?_
    refine im_gfI (q := 64) D134_61 (im_fl cn_134 fl_3_19) hp0.1 rfl rfl tI_3_1 rfl ?_
    refine im_iadd (q := 65) D134_64 ?_
    refine im_ld (q := 67) (i := 5) D134_65 rfl rfl rfl ?_
    obtain ⟨hg7, hP⟩ := hP
    obtain ⟨hg8, hP⟩ := hP
    refine im_last (q := 68) D134_67 sf_933 hg7.1 hg7.2 (by decide) hg8 ?_
    exact im_vret (q := 69) D134_68 rfl hP
  · replace hP := hP.2 (Int.not_le.mp hc3)
    refine im_ld (q := 16) (i := 0) D134_15 rfl rfl rfl ?_
    refine im_gfR (q := 19) (b := (p0 + 1)) D134_16 (im_fl cn_134 fl_3_9) hp0.1 rfl rfl tR_3_2 rfl ?_
    refine im_ld (q := 21) (i := 7) D134_19 rfl rfl rfl ?_
    obtain ⟨hg5, hP⟩ := hP
    refine im_rng (j := p7) hp0.2 hg5.1 hg5.2 (fun hr6 => ?_)
    refine im_iald (q := 22) D134_21 hp0.2 hg5.1 hg5.2 (by decide) rfl ?_
    refine im_i2l (q := 23) D134_22 hr6 ?_
    refine im_ld (q := 24) (i := 1) D134_23 rfl rfl rfl ?_
    refine im_lmul (q := 25) D134_24 ?_
    refine im_ld (q := 27) (i := 5) D134_25 rfl rfl rfl ?_
    refine im_ladd (q := 28) D134_27 ?_
    refine im_st2 (q := 30) (i := 8) (L' := [some (.ref p0), some (vL p1), none, some (.ref 933), some (vI p4), some (vL p5), none, some (vI p7), some (vL (((M (p0 + 1) p7) * p1) + p5)), none]) D134_28 (Or.inr rfl) (Nat.le_of_ble_eq_true rfl) rfl ?_
    refine im_ld (q := 31) (i := 3) D134_30 rfl rfl rfl ?_
    refine im_ld (q := 33) (i := 4) D134_31 rfl rfl rfl ?_
    refine im_ld (q := 35) (i := 7) D134_33 rfl rfl rfl ?_
    refine im_iadd (q := 36) D134_35 ?_
    refine im_ld (q := 38) (i := 8) D134_36 rfl rfl rfl ?_
    refine im_ldc2 (q := 41) (n := 1000000000) D134_38 rfl ?_
    obtain ⟨hg9, hP⟩ := hP
    refine im_lrem (q := 42) D134_41 hg9 (by decide) (by decide) ?_
    obtain ⟨hg10, hP⟩ := hP
    obtain ⟨hg11, hP⟩ := hP
    refine im_last (q := 43) D134_42 sf_933 hg10.1 hg10.2 (by decide) hg11 ?_
    refine im_ld (q := 45) (i := 8) D134_43 rfl rfl rfl ?_
    refine im_ldc2 (q := 48) (n := 1000000000) D134_45 rfl ?_
    refine im_ldiv (q := 49) D134_48 hg9 (by decide) (by decide) ?_
    refine im_st2 (q := 51) (i := 5) (L' := [some (.ref p0), some (vL p1), none, some (.ref 933), some (vI p4), some (vL ((((M (p0 + 1) p7) * p1) + p5).tdiv 1000000000)), none, some (vI p7), some (vL (((M (p0 + 1) p7) * p1) + p5)), none]) D134_49 (Or.inr rfl) (Nat.le_of_ble_eq_true rfl) rfl ?_
    refine im_iinc (q := 54) (i := 7) (L' := [some (.ref p0), some (vL p1), none, some (.ref 933), some (vI p4), some (vL ((((M (p0 + 1) p7) * p1) + p5).tdiv 1000000000)), none, some (vI (p7 + 1)), some (vL (((M (p0 + 1) p7) * p1) + p5)), none]) D134_51 rfl (Nat.le_of_ble_eq_true rfl) rfl ?_
    refine im_goto (q := 57) (t := 6) D134_54 rfl ?_
    exact hP.wk ⟨rfl, rfl, rfl, rfl, rfl, rfl, trivial⟩
set_option maxRecDepth 20000 in
set_option maxHeartbeats 4000000 in
theorem k_Num_takeMultiple_0 {g : im_g} {d : Nat} {e : im_E} {M : im_M} {K : im_K} {p1 p2 : Int} (hP : (0 ≤ ((36 + p2) - 1) ∧ ((36 + p2) - 1) < 72) ∧ ((0 < (M 933 ((36 + p2) - 1)) → (0 ≤ (p1 + p2) ∧ (p1 + p2) < 72) ∧ (0 ≤ ((p1 + p2) - 1) ∧ ((p1 + p2) - 1) < 72) ∧ (im_i64 (((M 933 (p1 + p2)) * 1000000000) + (M 933 ((p1 + p2) - 1)))) ∧ (¬ (M 933 ((36 + p2) - 1)) = 0) ∧ (im_i64 ((((M 933 (p1 + p2)) * 1000000000) + (M 933 ((p1 + p2) - 1))).tdiv (M 933 ((36 + p2) - 1)))) ∧ im_T g d 135 54 [some (.ref 933), some (vI p1), some (vI p2), none, none, none, none, some (vL (min ((((M 933 (p1 + p2)) * 1000000000) + (M 933 ((p1 + p2) - 1))).tdiv (M 933 ((36 + p2) - 1))) 999999999)), none, some (vL 0), none, some (vI 0), none, none, none, none, none] [] e M K) ∧ ((M 933 ((36 + p2) - 1)) ≤ 0 → K (.inl (some (vL 0))) e M))) : im_T g d 135 0 [some (.ref 933), some (vI p1), some (vI p2), none, none, none, none, none, none, none, none, none, none, none, none, none, none] [] e M K := by
  refine im_ld (q := 1) (i := 0) D135_0 rfl rfl rfl ?_
  refine im_bipush (q := 3) D135_1 rfl ?_
  refine im_ld (q := 4) (i := 2) D135_3 rfl rfl rfl ?_
  refine im_iadd (q := 5) D135_4 ?_
  refine im_iconst (q := 6) D135_5 ?_
  refine im_isub (q := 7) D135_6 ?_
  obtain ⟨hg1, hP⟩ := hP
  refine im_rng (j := ((36 + p2) - 1)) sf_933 hg1.1 hg1.2 (fun hr2 => ?_)
  refine im_lald (q := 8) D135_7 sf_933 hg1.1 hg1.2 (by decide) rfl ?_
  refine im_st2 (q := 9) (i := 3) (L' := [some (.ref 933), some (vI p1), some (vI p2), some (vL (M 933 ((36 + p2) - 1))), none, none, none, none, none, none, none, none, none, none, none, none, none]) D135_8 (Or.inl ⟨_, rfl, rfl⟩) (Nat.le_of_ble_eq_true rfl) rfl ?_
  refine im_ld (q := 10) (i := 3) D135_9 rfl rfl rfl ?_
  refine im_lconst (q := 11) (z := 0) D135_10 rfl ?_
  refine im_lif (q := 12) (q2 := 15) (t := 17) D135_11 D135_12 rfl hr2 (by decide) (fun hc3 => ?_) (fun hc3 => ?_)
  · replace hP := hP.1 hc3
    refine im_ld (q := 18) (i := 0) D135_17 rfl rfl rfl ?_
    refine im_ld (q := 19) (i := 1) D135_18 rfl rfl rfl ?_
    refine im_ld (q := 20) (i := 2) D135_19 rfl rfl rfl ?_
    refine im_iadd (q := 21) D135_20 ?_
    obtain ⟨hg4, hP⟩ := hP
    refine im_rng (j := (p1 + p2)) sf_933 hg4.1 hg4.2 (fun hr5 => ?_)
    refine im_lald (q := 22) D135_21 sf_933 hg4.1 hg4.2 (by decide) rfl ?_
    refine im_ldc2 (q := 25) (n := 1000000000) D135_22 rfl ?_
    refine im_lmul (q := 26) D135_25 ?_
    refine im_ld (q := 27) (i := 0) D135_26 rfl rfl rfl ?_
    refine im_ld (q := 28) (i := 1) D135_27 rfl rfl rfl ?_
    refine im_ld (q := 29) (i := 2) D135_28 rfl rfl rfl ?_
    refine im_iadd (q := 30) D135_29 ?_
    refine im_iconst (q := 31) D135_30 ?_
    refine im_isub (q := 32) D135_31 ?_
    obtain ⟨hg6, hP⟩ := hP
    refine im_rng (j := ((p1 + p2) - 1)) sf_933 hg6.1 hg6.2 (fun hr7 => ?_)
    refine im_lald (q := 33) D135_32 sf_933 hg6.1 hg6.2 (by decide) rfl ?_
    refine im_ladd (q := 34) D135_33 ?_
    refine im_st2 (q := 36) (i := 5) (L' := [some (.ref 933), some (vI p1), some (vI p2), some (vL (M 933 ((36 + p2) - 1))), none, some (vL (((M 933 (p1 + p2)) * 1000000000) + (M 933 ((p1 + p2) - 1)))), none, none, none, none, none, none, none, none, none, none, none]) D135_34 (Or.inr rfl) (Nat.le_of_ble_eq_true rfl) rfl ?_
    refine im_ld (q := 38) (i := 5) D135_36 rfl rfl rfl ?_
    refine im_ld (q := 39) (i := 3) D135_38 rfl rfl rfl ?_
    obtain ⟨hg8, hP⟩ := hP
    obtain ⟨hg9, hP⟩ := hP
    refine im_ldiv (q := 40) D135_39 hg8 hr2 hg9 ?_
    refine im_ldc2 (q := 43) (n := 999999999) D135_40 rfl ?_
    obtain ⟨hg10, hP⟩ := hP
    refine im_lmin (q := 46) D135_43 rfl hg10 (by decide) rfl ?_
    refine im_st2 (q := 48) (i := 7) (L' := [some (.ref 933), some (vI p1), some (vI p2), some (vL (M 933 ((36 + p2) - 1))), none, some (vL (((M 933 (p1 + p2)) * 1000000000) + (M 933 ((p1 + p2) - 1)))), none, some (vL (min ((((M 933 (p1 + p2)) * 1000000000) + (M 933 ((p1 + p2) - 1))).tdiv (M 933 ((36 + p2) - 1))) 999999999)), none, none, none, none, none, none, none, none, none]) D135_46 (Or.inr rfl) (Nat.le_of_ble_eq_true rfl) rfl ?_
    refine im_lconst (q := 49) (z := 0) D135_48 rfl ?_
    refine im_st2 (q := 51) (i := 9) (L' := [some (.ref 933), some (vI p1), some (vI p2), some (vL (M 933 ((36 + p2) - 1))), none, some (vL (((M 933 (p1 + p2)) * 1000000000) + (M 933 ((p1 + p2) - 1)))), none, some (vL (min ((((M 933 (p1 + p2)) * 1000000000) + (M 933 ((p1 + p2) - 1))).tdiv (M 933 ((36 + p2) - 1))) 999999999)), none, some (vL 0), none, none, none, none, none, none, none]) D135_49 (Or.inr rfl) (Nat.le_of_ble_eq_true rfl) rfl ?_
    refine im_iconst (q := 52) D135_51 ?_
    refine im_st1 (q := 54) (i := 11) (L' := [some (.ref 933), some (vI p1), some (vI p2), some (vL (M 933 ((36 + p2) - 1))), none, some (vL (((M 933 (p1 + p2)) * 1000000000) + (M 933 ((p1 + p2) - 1)))), none, some (vL (min ((((M 933 (p1 + p2)) * 1000000000) + (M 933 ((p1 + p2) - 1))).tdiv (M 933 ((36 + p2) - 1))) 999999999)), none, some (vL 0), none, some (vI 0), none, none, none, none, none]) D135_52 (Or.inr rfl) (Nat.le_of_ble_eq_true rfl) rfl ?_
    exact hP.wk ⟨rfl, rfl, rfl, rfl, rfl, rfl, trivial⟩
  · replace hP := hP.2 (Int.not_lt.mp hc3)
    refine im_lconst (q := 16) (z := 0) D135_15 rfl ?_
    exact im_lret (q := 17) D135_16 rfl hP
set_option maxRecDepth 20000 in
set_option maxHeartbeats 4000000 in
theorem k_Num_takeMultiple_54 {g : im_g} {d : Nat} {e : im_E} {M : im_M} {K : im_K} {p1 p2 p7 p9 p11 : Int} (hP : (im_i32 p11) ∧ (im_i32 p2) ∧ ((p2 ≤ p11 → (0 ≤ (p1 + p2) ∧ (p1 + p2) < 72) ∧ (im_i64 ((M 933 (p1 + p2)) - p9)) ∧ im_T g d 135 139 [some (.ref 933), some (vI p1), some (vI p2), none, none, none, none, some (vL p7), none, none, none, some (vI 0), none, none, none, none, none] [] e (im_u M 933 (p1 + p2) ((M 933 (p1 + p2)) - p9)) K) ∧ (p11 < p2 → (0 ≤ (p1 + p11) ∧ (p1 + p11) < 72) ∧ (0 ≤ (36 + p11) ∧ (36 + p11) < 72) ∧ (im_i64 (((M 933 (p1 + p11)) - (p7 * (M 933 (36 + p11)))) - p9)) ∧ (((((((M 933 (p1 + p11)) - (p7 * (M 933 (36 + p11)))) - p9) < 0 → (im_i64 (999999999 - (((M 933 (p1 + p11)) - (p7 * (M 933 (36 + p11)))) - p9)))))) ∧ (∀ x14 : Int, (((0 ≤ (((M 933 (p1 + p11)) - (p7 * (M 933 (36 + p11)))) - p9)) ∧ x14 = 0) ∨ (((((M 933 (p1 + p11)) - (p7 * (M 933 (36 + p11)))) - p9) < 0) ∧ x14 = ((999999999 - (((M 933 (p1 + p11)) - (p7 * (M 933 (36 + p11)))) - p9)).tdiv 1000000000))) → (im_i64 ((((M 933 (p1 + p11)) - (p7 * (M 933 (36 + p11)))) - p9) + (x14 * 1000000000))) ∧ im_T g d 135 54 [some (.ref 933), some (vI p1), some (vI p2), none, none, none, none, some (vL p7), none, some (vL x14), none, some (vI (p11 + 1)), none, none, none, none, none] [] e (im_u M 933 (p1 + p11) ((((M 933 (p1 + p11)) - (p7 * (M 933 (36 + p11)))) - p9) + (x14 * 1000000000))) K))))) : im_T g d 135 54 [some (.ref 933), some (vI p1), some (vI p2), none, none, none, none, some (vL p7), none, some (vL p9), none, some (vI p11), none, none, none, none, none] [] e M K := by
  refine im_ld (q := 56) (i := 11) D135_54 rfl rfl rfl ?_
  refine im_ld (q := 57) (i := 2) D135_56 rfl rfl rfl ?_
  obtain ⟨hg1, hP⟩ := hP
  obtain ⟨hg2, hP⟩ := hP
  refine im_icmp (q := 60) (t := 126) D135_57 rfl hg1 hg2 (fun hc3 => ?_) (fun hc3 => ?_)
  · replace hP := hP.1 hc3
    refine im_ld (q := 127) (i := 0) D135_126 rfl rfl rfl ?_
    refine im_ld (q := 128) (i := 1) D135_127 rfl rfl rfl ?_
    refine im_ld (q := 129) (i := 2) D135_128 rfl rfl rfl ?_
    refine im_iadd (q := 130) D135_129 ?_
    refine im_dup2 (q := 131) D135_130 rfl rfl ?_
    obtain ⟨hg4, hP⟩ := hP
    refine im_rng (j := (p1 + p2)) sf_933 hg4.1 hg4.2 (fun hr5 => ?_)
    refine im_lald (q := 132) D135_131 sf_933 hg4.1 hg4.2 (by decide) rfl ?_
    refine im_ld (q := 134) (i := 9) D135_132 rfl rfl rfl ?_
    refine im_lsub (q := 135) D135_134 ?_
    obtain ⟨hg10, hP⟩ := hP
    refine im_last (q := 136) D135_135 sf_933 hg4.1 hg4.2 (by decide) hg10 ?_
    refine im_iconst (q := 137) D135_136 ?_
    refine im_st1 (q := 139) (i := 11) (L' := [some (.ref 933), some (vI p1), some (vI p2), none, none, none, none, some (vL p7), none, some (vL p9), none, some (vI 0), none, none, none, none, none]) D135_137 (Or.inr rfl) (Nat.le_of_ble_eq_true rfl) rfl ?_
    exact hP.wk ⟨rfl, rfl, rfl, rfl, rfl, trivial⟩
  · replace hP := hP.2 (Int.not_le.mp hc3)
    refine im_ld (q := 61) (i := 0) D135_60 rfl rfl rfl ?_
    refine im_ld (q := 62) (i := 1) D135_61 rfl rfl rfl ?_
    refine im_ld (q := 64) (i := 11) D135_62 rfl rfl rfl ?_
    refine im_iadd (q := 65) D135_64 ?_
    obtain ⟨hg6, hP⟩ := hP
    refine im_rng (j := (p1 + p11)) sf_933 hg6.1 hg6.2 (fun hr7 => ?_)
    refine im_lald (q := 66) D135_65 sf_933 hg6.1 hg6.2 (by decide) rfl ?_
    refine im_ld (q := 68) (i := 7) D135_66 rfl rfl rfl ?_
    refine im_ld (q := 69) (i := 0) D135_68 rfl rfl rfl ?_
    refine im_bipush (q := 71) D135_69 rfl ?_
    refine im_ld (q := 73) (i := 11) D135_71 rfl rfl rfl ?_
    refine im_iadd (q := 74) D135_73 ?_
    obtain ⟨hg8, hP⟩ := hP
    refine im_rng (j := (36 + p11)) sf_933 hg8.1 hg8.2 (fun hr9 => ?_)
    refine im_lald (q := 75) D135_74 sf_933 hg8.1 hg8.2 (by decide) rfl ?_
    refine im_lmul (q := 76) D135_75 ?_
    refine im_lsub (q := 77) D135_76 ?_
    refine im_ld (q := 79) (i := 9) D135_77 rfl rfl rfl ?_
    refine im_lsub (q := 80) D135_79 ?_
    refine im_st2 (q := 82) (i := 12) (L' := [some (.ref 933), some (vI p1), some (vI p2), none, none, none, none, some (vL p7), none, some (vL p9), none, some (vI p11), some (vL (((M 933 (p1 + p11)) - (p7 * (M 933 (36 + p11)))) - p9)), none, none, none, none]) D135_80 (Or.inr rfl) (Nat.le_of_ble_eq_true rfl) rfl ?_
    refine im_ld (q := 84) (i := 12) D135_82 rfl rfl rfl ?_
    refine im_lconst (q := 85) (z := 0) D135_84 rfl ?_
    obtain ⟨hg11, hP⟩ := hP
    obtain ⟨hP, hJ15⟩ := hP
    have kJ16 : ∀ x14 : Int, (((0 ≤ (((M 933 (p1 + p11)) - (p7 * (M 933 (36 + p11)))) - p9)) ∧ x14 = 0) ∨ (((((M 933 (p1 + p11)) - (p7 * (M 933 (36 + p11)))) - p9) < 0) ∧ x14 = ((999999999 - (((M 933 (p1 + p11)) - (p7 * (M 933 (36 + p11)))) - p9)).tdiv 1000000000))) → im_T g d 135 103 [some (.ref 933), some (vI p1), some (vI p2), none, none, none, none, some (vL p7), none, none, none, some (vI p11), some (vL (((M 933 (p1 + p11)) - (p7 * (M 933 (36 + p11)))) - p9)), none, none, none, none] [vL x14] e M K := by
      intro x14 hx17
      have hP := hJ15 x14 hx17
      refine im_st2 (q := 105) (i := 9) (L' := [some (.ref 933), some (vI p1), some (vI p2), none, none, none, none, some (vL p7), none, some (vL x14), none, some (vI p11), some (vL (((M 933 (p1 + p11)) - (p7 * (M 933 (36 + p11)))) - p9)), none, none, none, none]) D135_103 (Or.inr rfl) (Nat.le_of_ble_eq_true rfl) rfl ?_
      refine im_ld (q := 106) (i := 0) D135_105 rfl rfl rfl ?_
      refine im_ld (q := 107) (i := 1) D135_106 rfl rfl rfl ?_
      refine im_ld (q := 109) (i := 11) D135_107 rfl rfl rfl ?_
      refine im_iadd (q := 110) D135_109 ?_
      refine im_ld (q := 112) (i := 12) D135_110 rfl rfl rfl ?_
      refine im_ld (q := 114) (i := 9) D135_112 rfl rfl rfl ?_
      refine im_ldc2 (q := 117) (n := 1000000000) D135_114 rfl ?_
      refine im_lmul (q := 118) D135_117 ?_
      refine im_ladd (q := 119) D135_118 ?_
      obtain ⟨hg18, hP⟩ := hP
      refine im_last (q := 120) D135_119 sf_933 hg6.1 hg6.2 (by decide) hg18 ?_
      refine im_iinc (q := 123) (i := 11) (L' := [some (.ref 933), some (vI p1), some (vI p2), none, none, none, none, some (vL p7), none, some (vL x14), none, some (vI (p11 + 1)), some (vL (((M 933 (p1 + p11)) - (p7 * (M 933 (36 + p11)))) - p9)), none, none, none, none]) D135_120 rfl (Nat.le_of_ble_eq_true rfl) rfl ?_
      refine im_goto (q := 126) (t := 54) D135_123 rfl ?_
      exact hP.wk ⟨rfl, rfl, rfl, rfl, rfl, rfl, trivial⟩
    refine im_lif (q := 86) (q2 := 89) (t := 102) D135_85 D135_86 rfl hg11 (by decide) (fun hc12 => ?_) (fun hc12 => ?_)
    · refine im_lconst (q := 103) (z := 0) D135_102 rfl ?_
      exact (kJ16 (0) (Or.inl ⟨hc12, rfl⟩)).wk ⟨rfl, rfl, rfl, rfl, rfl, rfl, trivial⟩
    · replace hP := hP (Int.not_le.mp hc12)
      refine im_ldc2 (q := 92) (n := 999999999) D135_89 rfl ?_
      refine im_ld (q := 94) (i := 12) D135_92 rfl rfl rfl ?_
      refine im_lsub (q := 95) D135_94 ?_
      refine im_ldc2 (q := 98) (n := 1000000000) D135_95 rfl ?_
      have hg13 := hP
      refine im_ldiv (q := 99) D135_98 hg13 (by decide) (by decide) ?_
      refine im_goto (q := 102) (t := 103) D135_99 rfl ?_
      exact (kJ16 (((999999999 - (((M 933 (p1 + p11)) - (p7 * (M 933 (36 + p11)))) - p9)).tdiv 1000000000)) (Or.inr ⟨(Int.not_le.mp hc12), rfl⟩)).wk ⟨rfl, rfl, rfl, rfl, rfl, rfl, trivial⟩
set_option maxRecDepth 20000 in
set_option maxHeartbeats 4000000 in
theorem k_Num_takeMultiple_139 {g : im_g} {d : Nat} {e : im_E} {M : im_M} {K : im_K} {p1 p2 p7 p11 : Int} (hP : (im_i32 p11) ∧ ((((p11 < 3 → (0 ≤ (p1 + p2) ∧ (p1 + p2) < 72) ∧ (((M 933 (p1 + p2)) < 0 → im_T g d 135 167 [some (.ref 933), some (vI p1), some (vI p2), none, none, none, none, some (vL (p7 - 1)), none, none, none, some (vI p11), some (vL 0), none, some (vI 0), none, none] [] e M K))))) ∧ ((((3 ≤ p11)) ∨ ((p11 < 3) ∧ (0 ≤ (M 933 (p1 + p2))))) → K (.inl (some (vL p7))) e M))) : im_T g d 135 139 [some (.ref 933), some (vI p1), some (vI p2), none, none, none, none, some (vL p7), none, none, none, some (vI p11), none, none, none, none, none] [] e M K := by
  refine im_ld (q := 141) (i := 11) D135_139 rfl rfl rfl ?_
  refine im_iconst (q := 142) D135_141 ?_
  obtain ⟨hg1, hP⟩ := hP
  obtain ⟨hP, hJ6⟩ := hP
  have kJ7 : (((3 ≤ p11)) ∨ ((p11 < 3) ∧ (0 ≤ (M 933 (p1 + p2))))) → im_T g d 135 245 [none, none, none, none, none, none, none, some (vL p7), none, none, none, none, none, none, none, none, none] [] e M K := by
    intro  hx8
    have hP := hJ6  hx8
    refine im_ld (q := 247) (i := 7) D135_245 rfl rfl rfl ?_
    exact im_lret (q := 248) D135_247 rfl hP
  refine im_icmp (q := 145) (t := 245) D135_142 rfl hg1 (by decide) (fun hc2 => ?_) (fun hc2 => ?_)
  · exact (kJ7  (Or.inl hc2)).wk ⟨rfl, trivial⟩
  · replace hP := hP (Int.not_le.mp hc2)
    refine im_ld (q := 146) (i := 0) D135_145 rfl rfl rfl ?_
    refine im_ld (q := 147) (i := 1) D135_146 rfl rfl rfl ?_
    refine im_ld (q := 148) (i := 2) D135_147 rfl rfl rfl ?_
    refine im_iadd (q := 149) D135_148 ?_
    obtain ⟨hg3, hP⟩ := hP
    refine im_rng (j := (p1 + p2)) sf_933 hg3.1 hg3.2 (fun hr4 => ?_)
    refine im_lald (q := 150) D135_149 sf_933 hg3.1 hg3.2 (by decide) rfl ?_
    refine im_lconst (q := 151) (z := 0) D135_150 rfl ?_
    refine im_lif (q := 152) (q2 := 155) (t := 245) D135_151 D135_152 rfl hr4 (by decide) (fun hc5 => ?_) (fun hc5 => ?_)
    · exact (kJ7  (Or.inr ⟨(Int.not_le.mp hc2), hc5⟩)).wk ⟨rfl, trivial⟩
    · replace hP := hP (Int.not_le.mp hc5)
      refine im_ld (q := 157) (i := 7) D135_155 rfl rfl rfl ?_
      refine im_lconst (q := 158) (z := 1) D135_157 rfl ?_
      refine im_lsub (q := 159) D135_158 ?_
      refine im_st2 (q := 161) (i := 7) (L' := [some (.ref 933), some (vI p1), some (vI p2), none, none, none, none, some (vL (p7 - 1)), none, none, none, some (vI p11), none, none, none, none, none]) D135_159 (Or.inr rfl) (Nat.le_of_ble_eq_true rfl) rfl ?_
      refine im_lconst (q := 162) (z := 0) D135_161 rfl ?_
      refine im_st2 (q := 164) (i := 12) (L' := [some (.ref 933), some (vI p1), some (vI p2), none, none, none, none, some (vL (p7 - 1)), none, none, none, some (vI p11), some (vL 0), none, none, none, none]) D135_162 (Or.inr rfl) (Nat.le_of_ble_eq_true rfl) rfl ?_
      refine im_iconst (q := 165) D135_164 ?_
      refine im_st1 (q := 167) (i := 14) (L' := [some (.ref 933), some (vI p1), some (vI p2), none, none, none, none, some (vL (p7 - 1)), none, none, none, some (vI p11), some (vL 0), none, some (vI 0), none, none]) D135_165 (Or.inr rfl) (Nat.le_of_ble_eq_true rfl) rfl ?_
      exact hP.wk ⟨rfl, rfl, rfl, rfl, rfl, rfl, rfl, trivial⟩
set_option maxRecDepth 20000 in
set_option maxHeartbeats 4000000 in
theorem k_Num_takeMultiple_167 {g : im_g} {d : Nat} {e : im_E} {M : im_M} {K : im_K} {p1 p2 p7 p11 p12 p14 : Int} (hP : (im_i32 p14) ∧ (im_i32 p2) ∧ ((p2 ≤ p14 → (0 ≤ (p1 + p2) ∧ (p1 + p2) < 72) ∧ (im_i64 ((M 933 (p1 + p2)) + p12)) ∧ im_T g d 135 139 [some (.ref 933), some (vI p1), some (vI p2), none, none, none, none, some (vL p7), none, none, none, some (vI (p11 + 1)), none, none, none, none, none] [] e (im_u M 933 (p1 + p2) ((M 933 (p1 + p2)) + p12)) K) ∧ (p14 < p2 → (0 ≤ (p1 + p14) ∧ (p1 + p14) < 72) ∧ (0 ≤ (36 + p14) ∧ (36 + p14) < 72) ∧ (im_i64 (((M 933 (p1 + p14)) + (M 933 (36 + p14))) + p12)) ∧ ((∀ x13 : Int, ((((((M 933 (p1 + p14)) + (M 933 (36 + p14))) + p12) < 1000000000) ∧ x13 = 0) ∨ ((1000000000 ≤ (((M 933 (p1 + p14)) + (M 933 (36 + p14))) + p12)) ∧ x13 = 1)) → (im_i64 ((((M 933 (p1 + p14)) + (M 933 (36 + p14))) + p12) - (x13 * 1000000000))) ∧ im_T g d 135 167 [some (.ref 933), some (vI p1), some (vI p2), none, none, none, none, some (vL p7), none, none, none, some (vI p11), some (vL x13), none, some (vI (p14 + 1)), none, none] [] e (im_u M 933 (p1 + p14) ((((M 933 (p1 + p14)) + (M 933 (36 + p14))) + p12) - (x13 * 1000000000))) K))))) : im_T g d 135 167 [some (.ref 933), some (vI p1), some (vI p2), none, none, none, none, some (vL p7), none, none, none, some (vI p11), some (vL p12), none, some (vI p14), none, none] [] e M K := by
  refine im_ld (q := 169) (i := 14) D135_167 rfl rfl rfl ?_
  refine im_ld (q := 170) (i := 2) D135_169 rfl rfl rfl ?_
  obtain ⟨hg1, hP⟩ := hP
  obtain ⟨hg2, hP⟩ := hP
  refine im_icmp (q := 173) (t := 229) D135_170 rfl hg1 hg2 (fun hc3 => ?_) (fun hc3 => ?_)
  · replace hP := hP.1 hc3
    refine im_ld (q := 230) (i := 0) D135_229 rfl rfl rfl ?_
    refine im_ld (q := 231) (i := 1) D135_230 rfl rfl rfl ?_
    refine im_ld (q := 232) (i := 2) D135_231 rfl rfl rfl ?_
    refine im_iadd (q := 233) D135_232 ?_
    refine im_dup2 (q := 234) D135_233 rfl rfl ?_
    obtain ⟨hg4, hP⟩ := hP
    refine im_rng (j := (p1 + p2)) sf_933 hg4.1 hg4.2 (fun hr5 => ?_)
    refine im_lald (q := 235) D135_234 sf_933 hg4.1 hg4.2 (by decide) rfl ?_
    refine im_ld (q := 237) (i := 12) D135_235 rfl rfl rfl ?_
    refine im_ladd (q := 238) D135_237 ?_
    obtain ⟨hg10, hP⟩ := hP
    refine im_last (q := 239) D135_238 sf_933 hg4.1 hg4.2 (by decide) hg10 ?_
    refine im_iinc (q := 242) (i := 11) (L' := [some (.ref 933), some (vI p1), some (vI p2), none, none, none, none, some (vL p7), none, none, none, some (vI (p11 + 1)), some (vL p12), none, some (vI p14), none, none]) D135_239 rfl (Nat.le_of_ble_eq_true rfl) rfl ?_
    refine im_goto (q := 245) (t := 139) D135_242 rfl ?_
    exact hP.wk ⟨rfl, rfl, rfl, rfl, rfl, trivial⟩
  · replace hP := hP.2 (Int.not_le.mp hc3)
    refine im_ld (q := 174) (i := 0) D135_173 rfl rfl rfl ?_
    refine im_ld (q := 175) (i := 1) D135_174 rfl rfl rfl ?_
    refine im_ld (q := 177) (i := 14) D135_175 rfl rfl rfl ?_
    refine im_iadd (q := 178) D135_177 ?_
    obtain ⟨hg6, hP⟩ := hP
    refine im_rng (j := (p1 + p14)) sf_933 hg6.1 hg6.2 (fun hr7 => ?_)
    refine im_lald (q := 179) D135_178 sf_933 hg6.1 hg6.2 (by decide) rfl ?_
    refine im_ld (q := 180) (i := 0) D135_179 rfl rfl rfl ?_
    refine im_bipush (q := 182) D135_180 rfl ?_
    refine im_ld (q := 184) (i := 14) D135_182 rfl rfl rfl ?_
    refine im_iadd (q := 185) D135_184 ?_
    obtain ⟨hg8, hP⟩ := hP
    refine im_rng (j := (36 + p14)) sf_933 hg8.1 hg8.2 (fun hr9 => ?_)
    refine im_lald (q := 186) D135_185 sf_933 hg8.1 hg8.2 (by decide) rfl ?_
    refine im_ladd (q := 187) D135_186 ?_
    refine im_ld (q := 189) (i := 12) D135_187 rfl rfl rfl ?_
    refine im_ladd (q := 190) D135_189 ?_
    refine im_st2 (q := 192) (i := 15) (L' := [some (.ref 933), some (vI p1), some (vI p2), none, none, none, none, some (vL p7), none, none, none, some (vI p11), some (vL p12), none, some (vI p14), some (vL (((M 933 (p1 + p14)) + (M 933 (36 + p14))) + p12)), none]) D135_190 (Or.inr rfl) (Nat.le_of_ble_eq_true rfl) rfl ?_
    refine im_ld (q := 194) (i := 15) D135_192 rfl rfl rfl ?_
    refine im_ldc2 (q := 197) (n := 1000000000) D135_194 rfl ?_
    obtain ⟨hg11, hP⟩ := hP
    have hJ14 := hP
    have kJ15 : ∀ x13 : Int, ((((((M 933 (p1 + p14)) + (M 933 (36 + p14))) + p12) < 1000000000) ∧ x13 = 0) ∨ ((1000000000 ≤ (((M 933 (p1 + p14)) + (M 933 (36 + p14))) + p12)) ∧ x13 = 1)) → im_T g d 135 206 [some (.ref 933), some (vI p1), some (vI p2), none, none, none, none, some (vL p7), none, none, none, some (vI p11), none, none, some (vI p14), some (vL (((M 933 (p1 + p14)) + (M 933 (36 + p14))) + p12)), none] [vL x13] e M K := by
      intro x13 hx16
      have hP := hJ14 x13 hx16
      refine im_st2 (q := 208) (i := 12) (L' := [some (.ref 933), some (vI p1), some (vI p2), none, none, none, none, some (vL p7), none, none, none, some (vI p11), some (vL x13), none, some (vI p14), some (vL (((M 933 (p1 + p14)) + (M 933 (36 + p14))) + p12)), none]) D135_206 (Or.inr rfl) (Nat.le_of_ble_eq_true rfl) rfl ?_
      refine im_ld (q := 209) (i := 0) D135_208 rfl rfl rfl ?_
      refine im_ld (q := 210) (i := 1) D135_209 rfl rfl rfl ?_
      refine im_ld (q := 212) (i := 14) D135_210 rfl rfl rfl ?_
      refine im_iadd (q := 213) D135_212 ?_
      refine im_ld (q := 215) (i := 15) D135_213 rfl rfl rfl ?_
      refine im_ld (q := 217) (i := 12) D135_215 rfl rfl rfl ?_
      refine im_ldc2 (q := 220) (n := 1000000000) D135_217 rfl ?_
      refine im_lmul (q := 221) D135_220 ?_
      refine im_lsub (q := 222) D135_221 ?_
      obtain ⟨hg17, hP⟩ := hP
      refine im_last (q := 223) D135_222 sf_933 hg6.1 hg6.2 (by decide) hg17 ?_
      refine im_iinc (q := 226) (i := 14) (L' := [some (.ref 933), some (vI p1), some (vI p2), none, none, none, none, some (vL p7), none, none, none, some (vI p11), some (vL x13), none, some (vI (p14 + 1)), some (vL (((M 933 (p1 + p14)) + (M 933 (36 + p14))) + p12)), none]) D135_223 rfl (Nat.le_of_ble_eq_true rfl) rfl ?_
      refine im_goto (q := 229) (t := 167) D135_226 rfl ?_
      exact hP.wk ⟨rfl, rfl, rfl, rfl, rfl, rfl, rfl, trivial⟩
    refine im_lif (q := 198) (q2 := 201) (t := 205) D135_197 D135_198 rfl hg11 (by decide) (fun hc12 => ?_) (fun hc12 => ?_)
    · refine im_lconst (q := 206) (z := 0) D135_205 rfl ?_
      exact (kJ15 (0) (Or.inl ⟨hc12, rfl⟩)).wk ⟨rfl, rfl, rfl, rfl, rfl, rfl, rfl, trivial⟩
    · refine im_lconst (q := 202) (z := 1) D135_201 rfl ?_
      refine im_goto (q := 205) (t := 206) D135_202 rfl ?_
      exact (kJ15 (1) (Or.inr ⟨(Int.not_lt.mp hc12), rfl⟩)).wk ⟨rfl, rfl, rfl, rfl, rfl, rfl, rfl, trivial⟩
set_option maxRecDepth 20000 in
set_option maxHeartbeats 4000000 in
theorem k_Machine_isSo_0 {g : im_g} {d : Nat} {e : im_E} {M : im_M} {K : im_K} {p0 p1 : Int} (hP : (im_i32 p0) ∧ ((p0 = 21 → (im_i32 p1) ∧ ((∀ x4 : Int, (((p1 < 0) ∧ x4 = 0) ∨ ((0 ≤ p1) ∧ x4 = 1)) → K (.inl (some (vI x4))) e M))) ∧ (p0 = 22 → (im_i32 p1) ∧ ((∀ x11 : Int, (((p1 ≤ 0) ∧ x11 = 0) ∨ ((0 < p1) ∧ x11 = 1)) → K (.inl (some (vI x11))) e M))) ∧ (p0 = 23 → (im_i32 p1) ∧ ((∀ x18 : Int, (((0 < p1) ∧ x18 = 0) ∨ ((p1 ≤ 0) ∧ x18 = 1)) → K (.inl (some (vI x18))) e M))) ∧ (p0 = 24 → (im_i32 p1) ∧ ((∀ x25 : Int, (((0 ≤ p1) ∧ x25 = 0) ∨ ((p1 < 0) ∧ x25 = 1)) → K (.inl (some (vI x25))) e M))) ∧ (p0 < 21 ∨ 24 < p0 → (im_i32 p1) ∧ ((∀ x32 : Int, (((¬ p1 = 0) ∧ x32 = 0) ∨ ((p1 = 0) ∧ x32 = 1)) → K (.inl (some (vI x32))) e M))))) : im_T g d 136 0 [some (vI p0), some (vI p1)] [] e M K := by
  refine im_ld (q := 1) (i := 0) D136_0 rfl rfl rfl ?_
  obtain ⟨hg1, hP⟩ := hP
  by_cases hc8 : p0 = 21
  · refine im_tsw (q := 2) (t := 32) D136_1 hg1 (fun _ => by rcases hc8 with hc8 <;> (rw [hc8]; rfl)) (by rcases hc8 with hc8 <;> (rw [hc8]; rfl)) ?_
    replace hP := hP.1 hc8
    refine im_ld (q := 33) (i := 1) D136_32 rfl rfl rfl ?_
    obtain ⟨hg2, hP⟩ := hP
    have hJ5 := hP
    have kJ6 : ∀ x4 : Int, (((p1 < 0) ∧ x4 = 0) ∨ ((0 ≤ p1) ∧ x4 = 1)) → im_T g d 136 41 [none, none] [vI x4] e M K := by
      intro x4 hx7
      have hP := hJ5 x4 hx7
      exact im_zret (q := 42) D136_41 rfl (by clear hP; omega) hP
    refine im_ifc (q := 36) (t := 40) D136_33 rfl hg2 (fun hc3 => ?_) (fun hc3 => ?_)
    · refine im_iconst (q := 41) D136_40 ?_
      exact (kJ6 (0) (Or.inl ⟨hc3, rfl⟩)).wk trivial
    · refine im_iconst (q := 37) D136_36 ?_
      refine im_goto (q := 40) (t := 41) D136_37 rfl ?_
      exact (kJ6 (1) (Or.inr ⟨(Int.not_lt.mp hc3), rfl⟩)).wk trivial
  by_cases hc15 : p0 = 22
  · refine im_tsw (q := 2) (t := 42) D136_1 hg1 (fun _ => by rcases hc15 with hc15 <;> (rw [hc15]; rfl)) (by rcases hc15 with hc15 <;> (rw [hc15]; rfl)) ?_
    replace hP := hP.2.1 hc15
    refine im_ld (q := 43) (i := 1) D136_42 rfl rfl rfl ?_
    obtain ⟨hg9, hP⟩ := hP
    have hJ12 := hP
    have kJ13 : ∀ x11 : Int, (((p1 ≤ 0) ∧ x11 = 0) ∨ ((0 < p1) ∧ x11 = 1)) → im_T g d 136 51 [none, none] [vI x11] e M K := by
      intro x11 hx14
      have hP := hJ12 x11 hx14
      exact im_zret (q := 52) D136_51 rfl (by clear hP; omega) hP
    refine im_ifc (q := 46) (t := 50) D136_43 rfl hg9 (fun hc10 => ?_) (fun hc10 => ?_)
    · refine im_iconst (q := 51) D136_50 ?_
      exact (kJ13 (0) (Or.inl ⟨hc10, rfl⟩)).wk trivial
    · refine im_iconst (q := 47) D136_46 ?_
      refine im_goto (q := 50) (t := 51) D136_47 rfl ?_
      exact (kJ13 (1) (Or.inr ⟨(Int.not_le.mp hc10), rfl⟩)).wk trivial
  by_cases hc22 : p0 = 23
  · refine im_tsw (q := 2) (t := 52) D136_1 hg1 (fun _ => by rcases hc22 with hc22 <;> (rw [hc22]; rfl)) (by rcases hc22 with hc22 <;> (rw [hc22]; rfl)) ?_
    replace hP := hP.2.2.1 hc22
    refine im_ld (q := 53) (i := 1) D136_52 rfl rfl rfl ?_
    obtain ⟨hg16, hP⟩ := hP
    have hJ19 := hP
    have kJ20 : ∀ x18 : Int, (((0 < p1) ∧ x18 = 0) ∨ ((p1 ≤ 0) ∧ x18 = 1)) → im_T g d 136 61 [none, none] [vI x18] e M K := by
      intro x18 hx21
      have hP := hJ19 x18 hx21
      exact im_zret (q := 62) D136_61 rfl (by clear hP; omega) hP
    refine im_ifc (q := 56) (t := 60) D136_53 rfl hg16 (fun hc17 => ?_) (fun hc17 => ?_)
    · refine im_iconst (q := 61) D136_60 ?_
      exact (kJ20 (0) (Or.inl ⟨hc17, rfl⟩)).wk trivial
    · refine im_iconst (q := 57) D136_56 ?_
      refine im_goto (q := 60) (t := 61) D136_57 rfl ?_
      exact (kJ20 (1) (Or.inr ⟨(Int.not_lt.mp hc17), rfl⟩)).wk trivial
  by_cases hc29 : p0 = 24
  · refine im_tsw (q := 2) (t := 62) D136_1 hg1 (fun _ => by rcases hc29 with hc29 <;> (rw [hc29]; rfl)) (by rcases hc29 with hc29 <;> (rw [hc29]; rfl)) ?_
    replace hP := hP.2.2.2.1 hc29
    refine im_ld (q := 63) (i := 1) D136_62 rfl rfl rfl ?_
    obtain ⟨hg23, hP⟩ := hP
    have hJ26 := hP
    have kJ27 : ∀ x25 : Int, (((0 ≤ p1) ∧ x25 = 0) ∨ ((p1 < 0) ∧ x25 = 1)) → im_T g d 136 71 [none, none] [vI x25] e M K := by
      intro x25 hx28
      have hP := hJ26 x25 hx28
      exact im_zret (q := 72) D136_71 rfl (by clear hP; omega) hP
    refine im_ifc (q := 66) (t := 70) D136_63 rfl hg23 (fun hc24 => ?_) (fun hc24 => ?_)
    · refine im_iconst (q := 71) D136_70 ?_
      exact (kJ27 (0) (Or.inl ⟨hc24, rfl⟩)).wk trivial
    · refine im_iconst (q := 67) D136_66 ?_
      refine im_goto (q := 70) (t := 71) D136_67 rfl ?_
      exact (kJ27 (1) (Or.inr ⟨(Int.not_le.mp hc24), rfl⟩)).wk trivial
  have hd36 : p0 < 21 ∨ 24 < p0 := by clear hP; omega
  refine im_tsw (q := 2) (t := 72) D136_1 hg1 (fun z9 => absurd hd36 z9) (by rw [if_pos hd36]; rfl) ?_
  replace hP := hP.2.2.2.2 hd36
  refine im_ld (q := 73) (i := 1) D136_72 rfl rfl rfl ?_
  obtain ⟨hg30, hP⟩ := hP
  have hJ33 := hP
  have kJ34 : ∀ x32 : Int, (((¬ p1 = 0) ∧ x32 = 0) ∨ ((p1 = 0) ∧ x32 = 1)) → im_T g d 136 81 [none, none] [vI x32] e M K := by
    intro x32 hx35
    have hP := hJ33 x32 hx35
    exact im_zret (q := 82) D136_81 rfl (by clear hP; omega) hP
  refine im_ifc (q := 76) (t := 80) D136_73 rfl hg30 (fun hc31 => ?_) (fun hc31 => ?_)
  · refine im_iconst (q := 81) D136_80 ?_
    exact (kJ34 (0) (Or.inl ⟨hc31, rfl⟩)).wk trivial
  · refine im_iconst (q := 77) D136_76 ?_
    refine im_goto (q := 80) (t := 81) D136_77 rfl ?_
    exact (kJ34 (1) (Or.inr ⟨(Decidable.not_not.mp hc31), rfl⟩)).wk trivial
set_option maxRecDepth 20000 in
set_option maxHeartbeats 4000000 in
theorem k_Machine_pass_0 {g : im_g} {d : Nat} {e : im_E} {M : im_M} {K : im_K} {p1 p2 p3 : Int} (hd : 1 ≤ d) (hP : im_T g (d - 1) 138 0 [some (.ref 13), some (vI p1)] [] e M (im_ri (fun x2 e_ M1 => e = e_ ∧ ∃ b3 : Nat, ((M1 931 4) = (b3 : Int)) ∧ (im_state e b3) ∧ (im_i32 p2) ∧ ((((p2 = 2 → (im_i32 p3) ∧ ((p3 = 0 → (0 ≤ x2 ∧ x2 < 5000) ∧ ((p2 = 1 → im_T g (d - 1) 139 0 [some (.ref 931), some (vI p1), none, none, none, none, none, none, none, none, none] [] e (im_u M1 b3 5 (M1 15 x2)) (im_ri (fun x39 e_ M38 => e = e_ ∧ K (.inl (some (vI x39))) e M38))) ∧ (p2 = 4 → (0 ≤ p1 ∧ p1 < 5000) ∧ im_T g (d - 1) 140 0 [some (.ref 931), some (vL ((im_u M1 b3 5 (M1 15 x2)) 19 p1)), none, none] [] e (im_u M1 b3 5 (M1 15 x2)) (im_ri (fun x45 e_ M44 => e = e_ ∧ K (.inl (some (vI x45))) e M44))) ∧ (p2 = 5 → ((¬ p3 = 0 → K (.inl (some (vI 0))) e (im_u M1 b3 5 (M1 15 x2))) ∧ (p3 = 0 → ∃ b49 : Nat, (((im_u M1 b3 5 (M1 15 x2)) 932 0) = (b49 : Int)) ∧ (im_num e b49) ∧ im_T g (d - 1) 118 0 [some (.ref 1459), some (vI 5), some (vL 0), none, some (vL 0), none, some (vL 0), none, some (.ref b49)] [] e (im_u M1 b3 5 (M1 15 x2)) (im_ri (fun x53 e_ M52 => e = e_ ∧ (im_i32 x53) ∧ ((x53 = 0 → K (.inl (some (vI (-9)))) e M52) ∧ (¬ x53 = 0 → K (.inl (some (vI 0))) e M52))))))) ∧ (p2 < 1 ∨ 5 < p2 ∨ p2 = 2 ∨ p2 = 3 → K (.inl (some (vI 0))) e (im_u M1 b3 5 (M1 15 x2))))))))) ∧ ((((¬ p2 = 2)) ∨ ((p2 = 2) ∧ (¬ p3 = 0))) → (im_i32 x2) ∧ ((p2 = 1 → im_T g (d - 1) 139 0 [some (.ref 931), some (vI p1), none, none, none, none, none, none, none, none, none] [] e (im_u M1 b3 5 x2) (im_ri (fun x17 e_ M16 => e = e_ ∧ K (.inl (some (vI x17))) e M16))) ∧ (p2 = 4 → (0 ≤ p1 ∧ p1 < 5000) ∧ im_T g (d - 1) 140 0 [some (.ref 931), some (vL ((im_u M1 b3 5 x2) 19 p1)), none, none] [] e (im_u M1 b3 5 x2) (im_ri (fun x23 e_ M22 => e = e_ ∧ K (.inl (some (vI x23))) e M22))) ∧ (p2 = 5 → (im_i32 p3) ∧ ((¬ p3 = 0 → K (.inl (some (vI 0))) e (im_u M1 b3 5 x2)) ∧ (p3 = 0 → ∃ b28 : Nat, (((im_u M1 b3 5 x2) 932 0) = (b28 : Int)) ∧ (im_num e b28) ∧ im_T g (d - 1) 118 0 [some (.ref 1459), some (vI 5), some (vL 0), none, some (vL 0), none, some (vL 0), none, some (.ref b28)] [] e (im_u M1 b3 5 x2) (im_ri (fun x32 e_ M31 => e = e_ ∧ (im_i32 x32) ∧ ((x32 = 0 → K (.inl (some (vI (-9)))) e M31) ∧ (¬ x32 = 0 → K (.inl (some (vI 0))) e M31))))))) ∧ (p2 < 1 ∨ 5 < p2 ∨ p2 = 2 ∨ p2 = 3 → K (.inl (some (vI 0))) e (im_u M1 b3 5 x2)))))))) : im_T g d 137 0 [some (.ref 931), some (vI p1), some (vI p2), some (vI p3), none] [] e M K := by
  refine im_ld (q := 1) (i := 0) D137_0 rfl rfl rfl ?_
  refine im_gfR (q := 4) (b := 13) D137_1 (im_fl cn_137 fl_2_55) sf_931 rfl rfl tR_2_0 rfl ?_
  refine im_ld (q := 5) (i := 1) D137_4 rfl rfl rfl ?_
  refine im_callV (q := 8) (kd := 1) (y := 138) (n := 1) (ci := 5) (a := 13) (vs := [.ref 13, vI p1]) (r := []) (L2 := [some (.ref 13), some (vI p1)]) D137_5 (im_cal cn_137 cl_2_224) (Or.inl rfl) rfl sf_13 rfl rfl rfl rfl hd ⟨rfl, rfl, trivial⟩ ?_
  refine hP.mono ?_
  rintro _ e59 M1 ⟨x2, rfl, rfl, hP⟩
  refine im_bkS ?_
  refine im_st1 (q := 10) (i := 4) (L' := [some (.ref 931), some (vI p1), some (vI p2), some (vI p3), some (vI x2)]) D137_8 (Or.inr rfl) (Nat.le_of_ble_eq_true rfl) rfl ?_
  refine im_ld (q := 11) (i := 0) D137_10 rfl rfl rfl ?_
  obtain ⟨b3, hb4, hP⟩ := hP
  obtain ⟨hb5, hP⟩ := hP
  refine im_gfD (q := 14) D137_11 (im_fl cn_137 fl_2_31) sf_931 rfl rfl tR_2_4 rfl hb4 ?_
  refine im_ld (q := 15) (i := 2) D137_14 rfl rfl rfl ?_
  refine im_iconst (q := 16) D137_15 ?_
  obtain ⟨hg6, hP⟩ := hP
  obtain ⟨hP, hJ12⟩ := hP
  have kJ13 : (((¬ p2 = 2)) ∨ ((p2 = 2) ∧ (¬ p3 = 0))) → im_T g d 137 36 [some (.ref 931), some (vI p1), some (vI p2), some (vI p3), some (vI x2)] [.ref b3] e M1 K := by
    intro  hx14
    have hP := hJ12  hx14
    refine im_ld (q := 38) (i := 4) D137_36 rfl rfl rfl ?_
    obtain ⟨hg15, hP⟩ := hP
    refine im_pfI (q := 41) D137_38 (im_fl cn_137 fl_2_183) hb5.1 rfl rfl ti_9_5 hg15 ?_
    refine im_ld (q := 42) (i := 2) D137_41 rfl rfl rfl ?_
    by_cases hc19 : p2 = 1
    · refine im_tsw (q := 43) (t := 76) D137_42 hg6 (fun _ => by rcases hc19 with hc19 <;> (rw [hc19]; rfl)) (by rcases hc19 with hc19 <;> (rw [hc19]; rfl)) ?_
      replace hP := hP.1 hc19
      refine im_ld (q := 77) (i := 0) D137_76 rfl rfl rfl ?_
      refine im_ld (q := 78) (i := 1) D137_77 rfl rfl rfl ?_
      refine im_callV (q := 81) (kd := 1) (y := 139) (n := 1) (ci := 2) (a := 931) (vs := [.ref 931, vI p1]) (r := []) (L2 := [some (.ref 931), some (vI p1), none, none, none, none, none, none, none, none, none]) D137_78 (im_cal cn_137 cl_2_227) (Or.inl rfl) rfl sf_931 rfl rfl rfl rfl hd ⟨rfl, rfl, trivial⟩ ?_
      refine hP.mono ?_
      rintro _ e18 M16 ⟨x17, rfl, rfl, hP⟩
      refine im_bkS ?_
      exact im_iret (q := 82) D137_81 rfl hP
    by_cases hc25 : p2 = 4
    · refine im_tsw (q := 43) (t := 82) D137_42 hg6 (fun _ => by rcases hc25 with hc25 <;> (rw [hc25]; rfl)) (by rcases hc25 with hc25 <;> (rw [hc25]; rfl)) ?_
      replace hP := hP.2.1 hc25
      refine im_ld (q := 83) (i := 0) D137_82 rfl rfl rfl ?_
      refine im_ld (q := 84) (i := 0) D137_83 rfl rfl rfl ?_
      refine im_gfR (q := 87) (b := 13) D137_84 (im_fl cn_137 fl_2_55) sf_931 rfl rfl tR_2_0 rfl ?_
      refine im_gfR (q := 90) (b := 19) D137_87 (im_fl cn_137 fl_2_68) sf_13 rfl rfl tR_5_5 rfl ?_
      refine im_ld (q := 91) (i := 1) D137_90 rfl rfl rfl ?_
      obtain ⟨hg20, hP⟩ := hP
      refine im_rng (j := p1) sf_19 hg20.1 hg20.2 (fun hr21 => ?_)
      refine im_lald (q := 92) D137_91 sf_19 hg20.1 hg20.2 (by decide) rfl ?_
      refine im_callV (q := 95) (kd := 1) (y := 140) (n := 1) (ci := 2) (a := 931) (vs := [.ref 931, vL ((im_u M1 b3 5 x2) 19 p1)]) (r := []) (L2 := [some (.ref 931), some (vL ((im_u M1 b3 5 x2) 19 p1)), none, none]) D137_92 (im_cal cn_137 cl_2_230) (Or.inl rfl) rfl sf_931 rfl rfl rfl rfl hd ⟨rfl, rfl, trivial⟩ ?_
      refine hP.mono ?_
      rintro _ e24 M22 ⟨x23, rfl, rfl, hP⟩
      refine im_bkS ?_
      exact im_iret (q := 96) D137_95 rfl hP
    by_cases hc36 : p2 = 5
    · refine im_tsw (q := 43) (t := 96) D137_42 hg6 (fun _ => by rcases hc36 with hc36 <;> (rw [hc36]; rfl)) (by rcases hc36 with hc36 <;> (rw [hc36]; rfl)) ?_
      replace hP := hP.2.2.1 hc36
      refine im_ld (q := 97) (i := 3) D137_96 rfl rfl rfl ?_
      obtain ⟨hg26, hP⟩ := hP
      refine im_ifc (q := 100) (t := 120) D137_97 rfl hg26 (fun hc27 => ?_) (fun hc27 => ?_)
      · replace hP := hP.1 hc27
        refine im_iconst (q := 121) D137_120 ?_
        refine im_goto (q := 124) (t := 126) D137_121 rfl ?_
        exact im_iret (q := 127) D137_126 rfl hP
      · replace hP := hP.2 (Decidable.not_not.mp hc27)
        refine im_ld (q := 101) (i := 0) D137_100 rfl rfl rfl ?_
        refine im_gfR (q := 104) (b := 1459) D137_101 (im_fl cn_137 fl_2_52) sf_931 rfl rfl tR_2_9 rfl ?_
        refine im_iconst (q := 105) D137_104 ?_
        refine im_lconst (q := 106) (z := 0) D137_105 rfl ?_
        refine im_lconst (q := 107) (z := 0) D137_106 rfl ?_
        refine im_lconst (q := 108) (z := 0) D137_107 rfl ?_
        refine im_ld (q := 109) (i := 0) D137_108 rfl rfl rfl ?_
        refine im_gfR (q := 112) (b := 932) D137_109 (im_fl cn_137 fl_2_11) sf_931 rfl rfl tR_2_1 rfl ?_
        refine im_iconst (q := 113) D137_112 ?_
        obtain ⟨b28, hb29, hP⟩ := hP
        obtain ⟨hb30, hP⟩ := hP
        refine im_aald (q := 114) D137_113 sf_932 (Or.inl rfl) (by decide) (by decide) (by decide) hb29 ?_
        refine im_callV (q := 117) (kd := 1) (y := 118) (n := 5) (ci := 7) (a := 1459) (vs := [.ref 1459, vI 5, vL 0, vL 0, vL 0, .ref b28]) (r := []) (L2 := [some (.ref 1459), some (vI 5), some (vL 0), none, some (vL 0), none, some (vL 0), none, some (.ref b28)]) D137_114 (im_cal cn_137 cl_2_234) (Or.inl rfl) rfl sf_1459 rfl rfl rfl rfl hd ⟨rfl, rfl, rfl, rfl, rfl, rfl, trivial⟩ ?_
        refine hP.mono ?_
        rintro _ e35 M31 ⟨x32, rfl, rfl, hP⟩
        refine im_bkS ?_
        obtain ⟨hg33, hP⟩ := hP
        refine im_ifc (q := 120) (t := 124) D137_117 rfl hg33 (fun hc34 => ?_) (fun hc34 => ?_)
        · replace hP := hP.1 hc34
          refine im_bipush (q := 126) D137_124 rfl ?_
          exact im_iret (q := 127) D137_126 rfl hP
        · replace hP := hP.2 hc34
          refine im_iconst (q := 121) D137_120 ?_
          refine im_goto (q := 124) (t := 126) D137_121 rfl ?_
          exact im_iret (q := 127) D137_126 rfl hP
    have hd37 : p2 < 1 ∨ 5 < p2 ∨ p2 = 2 ∨ p2 = 3 := by clear hP; omega
    refine im_tsw (q := 43) (t := 127) D137_42 hg6 ?_ ?_ ?_
    · intro z9
      have z8 : p2 = 2 ∨ p2 = 3 := by omega
      rcases z8 with z8 | z8 <;> (rw [z8]; rfl)
    · rcases hd37 with z8 | z8 | z8 | z8
      · rw [if_pos (Or.inl z8)]; rfl
      · rw [if_pos (Or.inr z8)]; rfl
      · rw [z8]; rfl
      · rw [z8]; rfl
    replace hP := hP.2.2.2 hd37
    refine im_iconst (q := 128) D137_127 ?_
    exact im_iret (q := 129) D137_128 rfl hP
  refine im_icmp (q := 19) (t := 36) D137_16 rfl hg6 (by decide) (fun hc7 => ?_) (fun hc7 => ?_)
  · exact (kJ13  (Or.inl hc7)).wk ⟨rfl, rfl, rfl, rfl, rfl, trivial⟩
  · replace hP := hP (Decidable.not_not.mp hc7)
    refine im_ld (q := 20) (i := 3) D137_19 rfl rfl rfl ?_
    obtain ⟨hg8, hP⟩ := hP
    refine im_ifc (q := 23) (t := 36) D137_20 rfl hg8 (fun hc9 => ?_) (fun hc9 => ?_)
    · exact (kJ13  (Or.inr ⟨(Decidable.not_not.mp hc7), hc9⟩)).wk ⟨rfl, rfl, rfl, rfl, rfl, trivial⟩
    · replace hP := hP (Decidable.not_not.mp hc9)
      refine im_ld (q := 24) (i := 0) D137_23 rfl rfl rfl ?_
      refine im_gfR (q := 27) (b := 13) D137_24 (im_fl cn_137 fl_2_55) sf_931 rfl rfl tR_2_0 rfl ?_
      refine im_gfR (q := 30) (b := 15) D137_27 (im_fl cn_137 fl_2_112) sf_13 rfl rfl tR_5_1 rfl ?_
      refine im_ld (q := 32) (i := 4) D137_30 rfl rfl rfl ?_
      obtain ⟨hg10, hP⟩ := hP
      refine im_rng (j := x2) sf_15 hg10.1 hg10.2 (fun hr11 => ?_)
      refine im_iald (q := 33) D137_32 sf_15 hg10.1 hg10.2 (by decide) rfl ?_
      refine im_goto (q := 36) (t := 38) D137_33 rfl ?_
      refine im_pfI (q := 41) D137_38 (im_fl cn_137 fl_2_183) hb5.1 rfl rfl ti_9_5 hr11 ?_
      refine im_ld (q := 42) (i := 2) D137_41 rfl rfl rfl ?_
      by_cases hc41 : p2 = 1
      · refine im_tsw (q := 43) (t := 76) D137_42 hg6 (fun _ => by rcases hc41 with hc41 <;> (rw [hc41]; rfl)) (by rcases hc41 with hc41 <;> (rw [hc41]; rfl)) ?_
        replace hP := hP.1 hc41
        refine im_ld (q := 77) (i := 0) D137_76 rfl rfl rfl ?_
        refine im_ld (q := 78) (i := 1) D137_77 rfl rfl rfl ?_
        refine im_callV (q := 81) (kd := 1) (y := 139) (n := 1) (ci := 2) (a := 931) (vs := [.ref 931, vI p1]) (r := []) (L2 := [some (.ref 931), some (vI p1), none, none, none, none, none, none, none, none, none]) D137_78 (im_cal cn_137 cl_2_227) (Or.inl rfl) rfl sf_931 rfl rfl rfl rfl hd ⟨rfl, rfl, trivial⟩ ?_
        refine hP.mono ?_
        rintro _ e40 M38 ⟨x39, rfl, rfl, hP⟩
        refine im_bkS ?_
        exact im_iret (q := 82) D137_81 rfl hP
      by_cases hc47 : p2 = 4
      · refine im_tsw (q := 43) (t := 82) D137_42 hg6 (fun _ => by rcases hc47 with hc47 <;> (rw [hc47]; rfl)) (by rcases hc47 with hc47 <;> (rw [hc47]; rfl)) ?_
        replace hP := hP.2.1 hc47
        refine im_ld (q := 83) (i := 0) D137_82 rfl rfl rfl ?_
        refine im_ld (q := 84) (i := 0) D137_83 rfl rfl rfl ?_
        refine im_gfR (q := 87) (b := 13) D137_84 (im_fl cn_137 fl_2_55) sf_931 rfl rfl tR_2_0 rfl ?_
        refine im_gfR (q := 90) (b := 19) D137_87 (im_fl cn_137 fl_2_68) sf_13 rfl rfl tR_5_5 rfl ?_
        refine im_ld (q := 91) (i := 1) D137_90 rfl rfl rfl ?_
        obtain ⟨hg42, hP⟩ := hP
        refine im_rng (j := p1) sf_19 hg42.1 hg42.2 (fun hr43 => ?_)
        refine im_lald (q := 92) D137_91 sf_19 hg42.1 hg42.2 (by decide) rfl ?_
        refine im_callV (q := 95) (kd := 1) (y := 140) (n := 1) (ci := 2) (a := 931) (vs := [.ref 931, vL ((im_u M1 b3 5 (M1 15 x2)) 19 p1)]) (r := []) (L2 := [some (.ref 931), some (vL ((im_u M1 b3 5 (M1 15 x2)) 19 p1)), none, none]) D137_92 (im_cal cn_137 cl_2_230) (Or.inl rfl) rfl sf_931 rfl rfl rfl rfl hd ⟨rfl, rfl, trivial⟩ ?_
        refine hP.mono ?_
        rintro _ e46 M44 ⟨x45, rfl, rfl, hP⟩
        refine im_bkS ?_
        exact im_iret (q := 96) D137_95 rfl hP
      by_cases hc57 : p2 = 5
      · refine im_tsw (q := 43) (t := 96) D137_42 hg6 (fun _ => by rcases hc57 with hc57 <;> (rw [hc57]; rfl)) (by rcases hc57 with hc57 <;> (rw [hc57]; rfl)) ?_
        replace hP := hP.2.2.1 hc57
        refine im_ld (q := 97) (i := 3) D137_96 rfl rfl rfl ?_
        refine im_ifc (q := 100) (t := 120) D137_97 rfl hg8 (fun hc48 => ?_) (fun hc48 => ?_)
        · replace hP := hP.1 hc48
          refine im_iconst (q := 121) D137_120 ?_
          refine im_goto (q := 124) (t := 126) D137_121 rfl ?_
          exact im_iret (q := 127) D137_126 rfl hP
        · replace hP := hP.2 (Decidable.not_not.mp hc48)
          refine im_ld (q := 101) (i := 0) D137_100 rfl rfl rfl ?_
          refine im_gfR (q := 104) (b := 1459) D137_101 (im_fl cn_137 fl_2_52) sf_931 rfl rfl tR_2_9 rfl ?_
          refine im_iconst (q := 105) D137_104 ?_
          refine im_lconst (q := 106) (z := 0) D137_105 rfl ?_
          refine im_lconst (q := 107) (z := 0) D137_106 rfl ?_
          refine im_lconst (q := 108) (z := 0) D137_107 rfl ?_
          refine im_ld (q := 109) (i := 0) D137_108 rfl rfl rfl ?_
          refine im_gfR (q := 112) (b := 932) D137_109 (im_fl cn_137 fl_2_11) sf_931 rfl rfl tR_2_1 rfl ?_
          refine im_iconst (q := 113) D137_112 ?_
          obtain ⟨b49, hb50, hP⟩ := hP
          obtain ⟨hb51, hP⟩ := hP
          refine im_aald (q := 114) D137_113 sf_932 (Or.inl rfl) (by decide) (by decide) (by decide) hb50 ?_
          refine im_callV (q := 117) (kd := 1) (y := 118) (n := 5) (ci := 7) (a := 1459) (vs := [.ref 1459, vI 5, vL 0, vL 0, vL 0, .ref b49]) (r := []) (L2 := [some (.ref 1459), some (vI 5), some (vL 0), none, some (vL 0), none, some (vL 0), none, some (.ref b49)]) D137_114 (im_cal cn_137 cl_2_234) (Or.inl rfl) rfl sf_1459 rfl rfl rfl rfl hd ⟨rfl, rfl, rfl, rfl, rfl, rfl, trivial⟩ ?_
          refine hP.mono ?_
          rintro _ e56 M52 ⟨x53, rfl, rfl, hP⟩
          refine im_bkS ?_
          obtain ⟨hg54, hP⟩ := hP
          refine im_ifc (q := 120) (t := 124) D137_117 rfl hg54 (fun hc55 => ?_) (fun hc55 => ?_)
          · replace hP := hP.1 hc55
            refine im_bipush (q := 126) D137_124 rfl ?_
            exact im_iret (q := 127) D137_126 rfl hP
          · replace hP := hP.2 hc55
            refine im_iconst (q := 121) D137_120 ?_
            refine im_goto (q := 124) (t := 126) D137_121 rfl ?_
            exact im_iret (q := 127) D137_126 rfl hP
      have hd58 : p2 < 1 ∨ 5 < p2 ∨ p2 = 2 ∨ p2 = 3 := by clear hP; omega
      refine im_tsw (q := 43) (t := 127) D137_42 hg6 ?_ ?_ ?_
      · intro z9
        have z8 : p2 = 2 ∨ p2 = 3 := by omega
        rcases z8 with z8 | z8 <;> (rw [z8]; rfl)
      · rcases hd58 with z8 | z8 | z8 | z8
        · rw [if_pos (Or.inl z8)]; rfl
        · rw [if_pos (Or.inr z8)]; rfl
        · rw [z8]; rfl
        · rw [z8]; rfl
      replace hP := hP.2.2.2 hd58
      refine im_iconst (q := 128) D137_127 ?_
      exact im_iret (q := 129) D137_128 rfl hP
set_option maxRecDepth 20000 in
set_option maxHeartbeats 4000000 in
theorem k_Pool_lastPart_0 {g : im_g} {d : Nat} {e : im_E} {M : im_M} {K : im_K} {p1 : Int} (hP : (0 ≤ p1 ∧ p1 < 5000) ∧ ((((¬ (M 14 p1) = 29 → (0 ≤ (p1 + 1) ∧ (p1 + 1) < 5000)))) ∧ (∀ x6 : Int, (((¬ (M 14 p1) = 29) ∧ x6 = (M 15 (p1 + 1))) ∨ (((M 14 p1) = 29) ∧ x6 = (p1 + 1))) → K (.inl (some (vI x6))) e M))) : im_T g d 138 0 [some (.ref 13), some (vI p1)] [] e M K := by
  refine im_ld (q := 1) (i := 0) D138_0 rfl rfl rfl ?_
  refine im_gfR (q := 4) (b := 14) D138_1 (im_fl cn_138 fl_5_9) sf_13 rfl rfl tR_5_0 rfl ?_
  refine im_ld (q := 5) (i := 1) D138_4 rfl rfl rfl ?_
  obtain ⟨hg1, hP⟩ := hP
  refine im_rng (j := p1) sf_14 hg1.1 hg1.2 (fun hr2 => ?_)
  refine im_iald (q := 6) D138_5 sf_14 hg1.1 hg1.2 (by decide) rfl ?_
  refine im_bipush (q := 8) D138_6 rfl ?_
  obtain ⟨hP, hJ7⟩ := hP
  have kJ8 : ∀ x6 : Int, (((¬ (M 14 p1) = 29) ∧ x6 = (M 15 (p1 + 1))) ∨ (((M 14 p1) = 29) ∧ x6 = (p1 + 1))) → im_T g d 138 25 [none, none] [vI x6] e M K := by
    intro x6 hx9
    have hP := hJ7 x6 hx9
    exact im_iret (q := 26) D138_25 rfl hP
  refine im_icmp (q := 11) (t := 17) D138_8 rfl hr2 (by decide) (fun hc3 => ?_) (fun hc3 => ?_)
  · replace hP := hP hc3
    refine im_ld (q := 18) (i := 0) D138_17 rfl rfl rfl ?_
    refine im_gfR (q := 21) (b := 15) D138_18 (im_fl cn_138 fl_5_15) sf_13 rfl rfl tR_5_1 rfl ?_
    refine im_ld (q := 22) (i := 1) D138_21 rfl rfl rfl ?_
    refine im_iconst (q := 23) D138_22 ?_
    refine im_iadd (q := 24) D138_23 ?_
    have hg4 := hP
    refine im_rng (j := (p1 + 1)) sf_15 hg4.1 hg4.2 (fun hr5 => ?_)
    refine im_iald (q := 25) D138_24 sf_15 hg4.1 hg4.2 (by decide) rfl ?_
    exact (kJ8 ((M 15 (p1 + 1))) (Or.inl ⟨hc3, rfl⟩)).wk trivial
  · refine im_ld (q := 12) (i := 1) D138_11 rfl rfl rfl ?_
    refine im_iconst (q := 13) D138_12 ?_
    refine im_iadd (q := 14) D138_13 ?_
    refine im_goto (q := 17) (t := 25) D138_14 rfl ?_
    exact (kJ8 ((p1 + 1)) (Or.inr ⟨(Decidable.not_not.mp hc3), rfl⟩)).wk trivial
set_option maxRecDepth 20000 in
set_option maxHeartbeats 4000000 in
theorem k_Machine_weighPay_0 {g : im_g} {d : Nat} {e : im_E} {M : im_M} {K : im_K} {p1 : Int} (hd : 1 ≤ d) (hP : (0 ≤ p1 ∧ p1 < 5000) ∧ ∃ b5 : Nat, ((M 932 0) = (b5 : Int)) ∧ (im_num e b5) ∧ im_T g (d - 1) 101 0 [some (.ref 934)] [] e M (im_r0 (fun  e_ M8 => e = e_ ∧ ((0 < (M8 b5 0) → ∃ b11 : Nat, ((M8 931 4) = (b11 : Int)) ∧ (im_state e b11) ∧ im_T g (d - 1) 89 0 [some (.ref (b11 + 1)), some (vL (M 19 p1)), none, some (vL (M 21 p1)), none, none] [] e M8 (im_rr (fun a15 e_ M14 => e = e_ ∧ im_num e a15 ∧ im_T g (d - 1) 68 0 [some (.ref a15), some (.ref b5)] [] e M14 (im_ri (fun x18 e_ M17 => e = e_ ∧ (im_i32 x18) ∧ ((∀ x21 : Int, (((x18 < 0) ∧ x21 = 0) ∨ ((0 ≤ x18) ∧ x21 = 1)) → ((x21 = 0 → im_T g (d - 1) 66 0 [some (.ref 934), some (.ref a15), none] [] e M17 (im_r0 (fun  e_ M26 => e = e_ ∧ ((¬ x21 = 0 → K (.inl (some (vI 0))) e M26) ∧ (x21 = 0 → im_T g (d - 1) 118 0 [some (.ref 1459), some (vI 3), some (vL (M 19 p1)), none, some (vL (M 20 p1)), none, some (vL (M 21 p1)), none, some (.ref b5)] [] e M26 (im_ri (fun x29 e_ M28 => e = e_ ∧ (im_i32 x29) ∧ ((x29 = 0 → K (.inl (some (vI (-9)))) e M28) ∧ (¬ x29 = 0 → K (.inl (some (vI 0))) e M28))))))))) ∧ (¬ x21 = 0 → im_T g (d - 1) 66 0 [some (.ref 934), some (.ref b5), none] [] e M17 (im_r0 (fun  e_ M34 => e = e_ ∧ ((¬ x21 = 0 → K (.inl (some (vI 0))) e M34) ∧ (x21 = 0 → im_T g (d - 1) 118 0 [some (.ref 1459), some (vI 3), some (vL (M 19 p1)), none, some (vL (M 20 p1)), none, some (vL (M 21 p1)), none, some (.ref b5)] [] e M34 (im_ri (fun x37 e_ M36 => e = e_ ∧ (im_i32 x37) ∧ ((x37 = 0 → K (.inl (some (vI (-9)))) e M36) ∧ (¬ x37 = 0 → K (.inl (some (vI 0))) e M36))))))))))))))))) ∧ ((M8 b5 0) ≤ 0 → im_T g (d - 1) 118 0 [some (.ref 1459), some (vI 2), some (vL (M 19 p1)), none, some (vL (M 20 p1)), none, some (vL (M 21 p1)), none, some (.ref b5)] [] e M8 (im_ri (fun x45 e_ M44 => e = e_ ∧ (im_i32 x45) ∧ ((∀ x48 : Int, (((x45 = 0) ∧ x48 = (-9)) ∨ ((¬ x45 = 0) ∧ x48 = 0)) → K (.inl (some (vI x48))) e M44))))))))) : im_T g d 139 0 [some (.ref 931), some (vI p1), none, none, none, none, none, none, none, none, none] [] e M K := by
  refine im_ld (q := 1) (i := 0) D139_0 rfl rfl rfl ?_
  refine im_gfR (q := 4) (b := 13) D139_1 (im_fl cn_139 fl_2_55) sf_931 rfl rfl tR_2_0 rfl ?_
  refine im_gfR (q := 7) (b := 19) D139_4 (im_fl cn_139 fl_2_68) sf_13 rfl rfl tR_5_5 rfl ?_
  refine im_ld (q := 8) (i := 1) D139_7 rfl rfl rfl ?_
  obtain ⟨hg1, hP⟩ := hP
  refine im_rng (j := p1) sf_19 hg1.1 hg1.2 (fun hr2 => ?_)
  refine im_lald (q := 9) D139_8 sf_19 hg1.1 hg1.2 (by decide) rfl ?_
  refine im_st2 (q := 10) (i := 2) (L' := [some (.ref 931), some (vI p1), some (vL (M 19 p1)), none, none, none, none, none, none, none, none]) D139_9 (Or.inl ⟨_, rfl, rfl⟩) (Nat.le_of_ble_eq_true rfl) rfl ?_
  refine im_ld (q := 11) (i := 0) D139_10 rfl rfl rfl ?_
  refine im_gfR (q := 14) (b := 13) D139_11 (im_fl cn_139 fl_2_55) sf_931 rfl rfl tR_2_0 rfl ?_
  refine im_gfR (q := 17) (b := 20) D139_14 (im_fl cn_139 fl_2_63) sf_13 rfl rfl tR_5_6 rfl ?_
  refine im_ld (q := 18) (i := 1) D139_17 rfl rfl rfl ?_
  refine im_rng (j := p1) sf_20 hg1.1 hg1.2 (fun hr3 => ?_)
  refine im_lald (q := 19) D139_18 sf_20 hg1.1 hg1.2 (by decide) rfl ?_
  refine im_st2 (q := 21) (i := 4) (L' := [some (.ref 931), some (vI p1), some (vL (M 19 p1)), none, some (vL (M 20 p1)), none, none, none, none, none, none]) D139_19 (Or.inr rfl) (Nat.le_of_ble_eq_true rfl) rfl ?_
  refine im_ld (q := 22) (i := 0) D139_21 rfl rfl rfl ?_
  refine im_gfR (q := 25) (b := 13) D139_22 (im_fl cn_139 fl_2_55) sf_931 rfl rfl tR_2_0 rfl ?_
  refine im_gfR (q := 28) (b := 21) D139_25 (im_fl cn_139 fl_2_218) sf_13 rfl rfl tR_5_7 rfl ?_
  refine im_ld (q := 29) (i := 1) D139_28 rfl rfl rfl ?_
  refine im_rng (j := p1) sf_21 hg1.1 hg1.2 (fun hr4 => ?_)
  refine im_lald (q := 30) D139_29 sf_21 hg1.1 hg1.2 (by decide) rfl ?_
  refine im_st2 (q := 32) (i := 6) (L' := [some (.ref 931), some (vI p1), some (vL (M 19 p1)), none, some (vL (M 20 p1)), none, some (vL (M 21 p1)), none, none, none, none]) D139_30 (Or.inr rfl) (Nat.le_of_ble_eq_true rfl) rfl ?_
  refine im_ld (q := 33) (i := 0) D139_32 rfl rfl rfl ?_
  refine im_gfR (q := 36) (b := 932) D139_33 (im_fl cn_139 fl_2_11) sf_931 rfl rfl tR_2_1 rfl ?_
  refine im_iconst (q := 37) D139_36 ?_
  obtain ⟨b5, hb6, hP⟩ := hP
  obtain ⟨hb7, hP⟩ := hP
  refine im_aald (q := 38) D139_37 sf_932 (Or.inl rfl) (by decide) (by decide) (by decide) hb6 ?_
  refine im_stR (q := 40) (i := 8) (L' := [some (.ref 931), some (vI p1), some (vL (M 19 p1)), none, some (vL (M 20 p1)), none, some (vL (M 21 p1)), none, some (.ref b5), none, none]) D139_38 (Or.inr rfl) (Nat.le_of_ble_eq_true rfl) rfl ?_
  refine im_ld (q := 41) (i := 0) D139_40 rfl rfl rfl ?_
  refine im_gfR (q := 44) (b := 934) D139_41 (im_fl cn_139 fl_2_22) sf_931 rfl rfl tR_2_3 rfl ?_
  refine im_callV (q := 47) (kd := 1) (y := 101) (n := 0) (ci := 3) (a := 934) (vs := [.ref 934]) (r := []) (L2 := [some (.ref 934)]) D139_44 (im_cal cn_139 cl_2_241) (Or.inl rfl) rfl sf_934 rfl rfl rfl rfl hd ⟨rfl, trivial⟩ ?_
  refine hP.mono ?_
  rintro _ e53 M8 ⟨rfl, rfl, hP⟩
  refine im_bkN ?_
  refine im_ld (q := 49) (i := 8) D139_47 rfl rfl rfl ?_
  refine im_rng (j := 0) hb7.1 (by decide) (show (0 : Int) < ((3 : Nat) : Int) by decide) (fun hr9 => ?_)
  refine im_gfI (q := 52) D139_49 (im_fl cn_139 fl_2_108) hb7.1 rfl rfl tI_3_0 rfl ?_
  refine im_ifc (q := 55) (t := 80) D139_52 rfl hr9 (fun hc10 => ?_) (fun hc10 => ?_)
  · replace hP := hP.1 hc10
    refine im_ld (q := 81) (i := 0) D139_80 rfl rfl rfl ?_
    obtain ⟨b11, hb12, hP⟩ := hP
    obtain ⟨hb13, hP⟩ := hP
    refine im_gfD (q := 84) D139_81 (im_fl cn_139 fl_2_31) sf_931 rfl rfl tR_2_4 rfl hb12 ?_
    refine im_gfR (q := 87) (b := (b11 + 1)) D139_84 (im_fl cn_139 fl_2_145) hb13.1 rfl rfl tR_9_0 rfl ?_
    refine im_ld (q := 88) (i := 2) D139_87 rfl rfl rfl ?_
    refine im_ld (q := 90) (i := 6) D139_88 rfl rfl rfl ?_
    refine im_callV (q := 93) (kd := 1) (y := 89) (n := 2) (ci := 0) (a := (b11 + 1)) (vs := [.ref (b11 + 1), vL (M 19 p1), vL (M 21 p1)]) (r := []) (L2 := [some (.ref (b11 + 1)), some (vL (M 19 p1)), none, some (vL (M 21 p1)), none, none]) D139_90 (im_cal cn_139 cl_2_71) (Or.inl rfl) rfl hb13.2.1.1 rfl rfl rfl rfl hd ⟨rfl, rfl, rfl, trivial⟩ ?_
    refine hP.mono ?_
    rintro _ e43 M14 ⟨a15, rfl, rfl, hP⟩
    refine im_bkS ?_
    obtain ⟨hb16, hP⟩ := hP
    refine im_stR (q := 95) (i := 9) (L' := [some (.ref 931), some (vI p1), some (vL (M 19 p1)), none, some (vL (M 20 p1)), none, some (vL (M 21 p1)), none, some (.ref b5), some (.ref a15), none]) D139_93 (Or.inr rfl) (Nat.le_of_ble_eq_true rfl) rfl ?_
    refine im_ld (q := 97) (i := 9) D139_95 rfl rfl rfl ?_
    refine im_ld (q := 99) (i := 8) D139_97 rfl rfl rfl ?_
    refine im_callV (q := 102) (kd := 1) (y := 68) (n := 1) (ci := 3) (a := a15) (vs := [.ref a15, .ref b5]) (r := []) (L2 := [some (.ref a15), some (.ref b5)]) D139_99 (im_cal cn_139 cl_2_127) (Or.inl rfl) rfl hb16.1 rfl rfl rfl rfl hd ⟨rfl, rfl, trivial⟩ ?_
    refine hP.mono ?_
    rintro _ e42 M17 ⟨x18, rfl, rfl, hP⟩
    refine im_bkS ?_
    obtain ⟨hg19, hP⟩ := hP
    have hJ22 := hP
    have kJ23 : ∀ x21 : Int, (((x18 < 0) ∧ x21 = 0) ∨ ((0 ≤ x18) ∧ x21 = 1)) → im_T g d 139 110 [some (.ref 931), none, some (vL (M 19 p1)), none, some (vL (M 20 p1)), none, some (vL (M 21 p1)), none, some (.ref b5), some (.ref a15), none] [vI x21] e M17 K := by
      intro x21 hx24
      have hP := hJ22 x21 hx24
      refine im_st1 (q := 112) (i := 10) (L' := [some (.ref 931), none, some (vL (M 19 p1)), none, some (vL (M 20 p1)), none, some (vL (M 21 p1)), none, some (.ref b5), some (.ref a15), some (vI x21)]) D139_110 (Or.inr rfl) (Nat.le_of_ble_eq_true rfl) rfl ?_
      refine im_ld (q := 113) (i := 0) D139_112 rfl rfl rfl ?_
      refine im_gfR (q := 116) (b := 934) D139_113 (im_fl cn_139 fl_2_22) sf_931 rfl rfl tR_2_3 rfl ?_
      refine im_ld (q := 118) (i := 10) D139_116 rfl rfl rfl ?_
      refine im_ifc (q := 121) (t := 126) D139_118 rfl (by clear hP; omega) (fun hc25 => ?_) (fun hc25 => ?_)
      · replace hP := hP.1 hc25
        refine im_ld (q := 128) (i := 9) D139_126 rfl rfl rfl ?_
        refine im_callV (q := 131) (kd := 1) (y := 66) (n := 1) (ci := 3) (a := 934) (vs := [.ref 934, .ref a15]) (r := []) (L2 := [some (.ref 934), some (.ref a15), none]) D139_128 (im_cal cn_139 cl_2_141) (Or.inl rfl) rfl sf_934 rfl rfl rfl rfl hd ⟨rfl, rfl, trivial⟩ ?_
        refine hP.mono ?_
        rintro _ e33 M26 ⟨rfl, rfl, hP⟩
        refine im_bkN ?_
        refine im_ld (q := 133) (i := 10) D139_131 rfl rfl rfl ?_
        refine im_ifc (q := 136) (t := 154) D139_133 rfl (by clear hP; omega) (fun hc27 => ?_) (fun hc27 => ?_)
        · replace hP := hP.1 hc27
          refine im_iconst (q := 155) D139_154 ?_
          refine im_goto (q := 158) (t := 160) D139_155 rfl ?_
          exact im_iret (q := 161) D139_160 rfl hP
        · replace hP := hP.2 (Decidable.not_not.mp hc27)
          refine im_ld (q := 137) (i := 0) D139_136 rfl rfl rfl ?_
          refine im_gfR (q := 140) (b := 1459) D139_137 (im_fl cn_139 fl_2_52) sf_931 rfl rfl tR_2_9 rfl ?_
          refine im_iconst (q := 141) D139_140 ?_
          refine im_ld (q := 142) (i := 2) D139_141 rfl rfl rfl ?_
          refine im_ld (q := 144) (i := 4) D139_142 rfl rfl rfl ?_
          refine im_ld (q := 146) (i := 6) D139_144 rfl rfl rfl ?_
          refine im_ld (q := 148) (i := 8) D139_146 rfl rfl rfl ?_
          refine im_callV (q := 151) (kd := 1) (y := 118) (n := 5) (ci := 7) (a := 1459) (vs := [.ref 1459, vI 3, vL (M 19 p1), vL (M 20 p1), vL (M 21 p1), .ref b5]) (r := []) (L2 := [some (.ref 1459), some (vI 3), some (vL (M 19 p1)), none, some (vL (M 20 p1)), none, some (vL (M 21 p1)), none, some (.ref b5)]) D139_148 (im_cal cn_139 cl_2_234) (Or.inl rfl) rfl sf_1459 rfl rfl rfl rfl hd ⟨rfl, rfl, rfl, rfl, rfl, rfl, trivial⟩ ?_
          refine hP.mono ?_
          rintro _ e32 M28 ⟨x29, rfl, rfl, hP⟩
          refine im_bkS ?_
          obtain ⟨hg30, hP⟩ := hP
          refine im_ifc (q := 154) (t := 158) D139_151 rfl hg30 (fun hc31 => ?_) (fun hc31 => ?_)
          · replace hP := hP.1 hc31
            refine im_bipush (q := 160) D139_158 rfl ?_
            exact im_iret (q := 161) D139_160 rfl hP
          · replace hP := hP.2 hc31
            refine im_iconst (q := 155) D139_154 ?_
            refine im_goto (q := 158) (t := 160) D139_155 rfl ?_
            exact im_iret (q := 161) D139_160 rfl hP
      · replace hP := hP.2 hc25
        refine im_ld (q := 123) (i := 8) D139_121 rfl rfl rfl ?_
        refine im_goto (q := 126) (t := 128) D139_123 rfl ?_
        refine im_callV (q := 131) (kd := 1) (y := 66) (n := 1) (ci := 3) (a := 934) (vs := [.ref 934, .ref b5]) (r := []) (L2 := [some (.ref 934), some (.ref b5), none]) D139_128 (im_cal cn_139 cl_2_141) (Or.inl rfl) rfl sf_934 rfl rfl rfl rfl hd ⟨rfl, rfl, trivial⟩ ?_
        refine hP.mono ?_
        rintro _ e41 M34 ⟨rfl, rfl, hP⟩
        refine im_bkN ?_
        refine im_ld (q := 133) (i := 10) D139_131 rfl rfl rfl ?_
        refine im_ifc (q := 136) (t := 154) D139_133 rfl (by clear hP; omega) (fun hc35 => ?_) (fun hc35 => ?_)
        · replace hP := hP.1 hc35
          refine im_iconst (q := 155) D139_154 ?_
          refine im_goto (q := 158) (t := 160) D139_155 rfl ?_
          exact im_iret (q := 161) D139_160 rfl hP
        · replace hP := hP.2 (Decidable.not_not.mp hc35)
          refine im_ld (q := 137) (i := 0) D139_136 rfl rfl rfl ?_
          refine im_gfR (q := 140) (b := 1459) D139_137 (im_fl cn_139 fl_2_52) sf_931 rfl rfl tR_2_9 rfl ?_
          refine im_iconst (q := 141) D139_140 ?_
          refine im_ld (q := 142) (i := 2) D139_141 rfl rfl rfl ?_
          refine im_ld (q := 144) (i := 4) D139_142 rfl rfl rfl ?_
          refine im_ld (q := 146) (i := 6) D139_144 rfl rfl rfl ?_
          refine im_ld (q := 148) (i := 8) D139_146 rfl rfl rfl ?_
          refine im_callV (q := 151) (kd := 1) (y := 118) (n := 5) (ci := 7) (a := 1459) (vs := [.ref 1459, vI 3, vL (M 19 p1), vL (M 20 p1), vL (M 21 p1), .ref b5]) (r := []) (L2 := [some (.ref 1459), some (vI 3), some (vL (M 19 p1)), none, some (vL (M 20 p1)), none, some (vL (M 21 p1)), none, some (.ref b5)]) D139_148 (im_cal cn_139 cl_2_234) (Or.inl rfl) rfl sf_1459 rfl rfl rfl rfl hd ⟨rfl, rfl, rfl, rfl, rfl, rfl, trivial⟩ ?_
          refine hP.mono ?_
          rintro _ e40 M36 ⟨x37, rfl, rfl, hP⟩
          refine im_bkS ?_
          obtain ⟨hg38, hP⟩ := hP
          refine im_ifc (q := 154) (t := 158) D139_151 rfl hg38 (fun hc39 => ?_) (fun hc39 => ?_)
          · replace hP := hP.1 hc39
            refine im_bipush (q := 160) D139_158 rfl ?_
            exact im_iret (q := 161) D139_160 rfl hP
          · replace hP := hP.2 hc39
            refine im_iconst (q := 155) D139_154 ?_
            refine im_goto (q := 158) (t := 160) D139_155 rfl ?_
            exact im_iret (q := 161) D139_160 rfl hP
    refine im_ifc (q := 105) (t := 109) D139_102 rfl hg19 (fun hc20 => ?_) (fun hc20 => ?_)
    · refine im_iconst (q := 110) D139_109 ?_
      exact (kJ23 (0) (Or.inl ⟨hc20, rfl⟩)).wk ⟨rfl, rfl, rfl, rfl, rfl, rfl, trivial⟩
    · refine im_iconst (q := 106) D139_105 ?_
      refine im_goto (q := 109) (t := 110) D139_106 rfl ?_
      exact (kJ23 (1) (Or.inr ⟨(Int.not_lt.mp hc20), rfl⟩)).wk ⟨rfl, rfl, rfl, rfl, rfl, rfl, trivial⟩
  · replace hP := hP.2 (Int.not_lt.mp hc10)
    refine im_ld (q := 56) (i := 0) D139_55 rfl rfl rfl ?_
    refine im_gfR (q := 59) (b := 1459) D139_56 (im_fl cn_139 fl_2_52) sf_931 rfl rfl tR_2_9 rfl ?_
    refine im_iconst (q := 60) D139_59 ?_
    refine im_ld (q := 61) (i := 2) D139_60 rfl rfl rfl ?_
    refine im_ld (q := 63) (i := 4) D139_61 rfl rfl rfl ?_
    refine im_ld (q := 65) (i := 6) D139_63 rfl rfl rfl ?_
    refine im_ld (q := 67) (i := 8) D139_65 rfl rfl rfl ?_
    refine im_callV (q := 70) (kd := 1) (y := 118) (n := 5) (ci := 7) (a := 1459) (vs := [.ref 1459, vI 2, vL (M 19 p1), vL (M 20 p1), vL (M 21 p1), .ref b5]) (r := []) (L2 := [some (.ref 1459), some (vI 2), some (vL (M 19 p1)), none, some (vL (M 20 p1)), none, some (vL (M 21 p1)), none, some (.ref b5)]) D139_67 (im_cal cn_139 cl_2_234) (Or.inl rfl) rfl sf_1459 rfl rfl rfl rfl hd ⟨rfl, rfl, rfl, rfl, rfl, rfl, trivial⟩ ?_
    refine hP.mono ?_
    rintro _ e52 M44 ⟨x45, rfl, rfl, hP⟩
    refine im_bkS ?_
    obtain ⟨hg46, hP⟩ := hP
    have hJ49 := hP
    have kJ50 : ∀ x48 : Int, (((x45 = 0) ∧ x48 = (-9)) ∨ ((¬ x45 = 0) ∧ x48 = 0)) → im_T g d 139 79 [none, none, none, none, none, none, none, none, none, none, none] [vI x48] e M44 K := by
      intro x48 hx51
      have hP := hJ49 x48 hx51
      exact im_iret (q := 80) D139_79 rfl hP
    refine im_ifc (q := 73) (t := 77) D139_70 rfl hg46 (fun hc47 => ?_) (fun hc47 => ?_)
    · refine im_bipush (q := 79) D139_77 rfl ?_
      exact (kJ50 ((-9)) (Or.inl ⟨hc47, rfl⟩)).wk trivial
    · refine im_iconst (q := 74) D139_73 ?_
      refine im_goto (q := 77) (t := 79) D139_74 rfl ?_
      exact (kJ50 (0) (Or.inr ⟨hc47, rfl⟩)).wk trivial
set_option maxRecDepth 20000 in
set_option maxHeartbeats 4000000 in
theorem k_Machine_let_0 {g : im_g} {d : Nat} {e : im_E} {M : im_M} {K : im_K} {p1 : Int} (hd : 1 ≤ d) (hP : ∃ b1 : Nat, ((M 931 4) = (b1 : Int)) ∧ (im_state e b1) ∧ im_T g (d - 1) 88 0 [some (.ref (b1 + 173)), some (vL p1), none, some (vL 0), none, none] [] e M (im_ri (fun x5 e_ M4 => e = e_ ∧ (im_i32 x5) ∧ ((x5 < 0 → ∃ b8 : Nat, ((M4 931 4) = (b8 : Int)) ∧ (im_state e b8) ∧ ∃ b11 : Nat, ((M4 932 0) = (b11 : Int)) ∧ (im_num e b11) ∧ im_T g (d - 1) 141 0 [some (.ref (b8 + 173)), some (vL p1), none, some (vL 0), none, some (.ref b11), none] [] e M4 (im_ri (fun x15 e_ M14 => e = e_ ∧ (im_i32 x15) ∧ ((∀ x18 : Int, (((x15 = 0) ∧ x18 = (-9)) ∨ ((¬ x15 = 0) ∧ x18 = 0)) → K (.inl (some (vI x18))) e M14))))) ∧ (0 ≤ x5 → ∃ b23 : Nat, ((M4 931 4) = (b23 : Int)) ∧ (im_state e b23) ∧ (0 ≤ x5 ∧ x5 < 40) ∧ ∃ b27 : Nat, ((M4 ((b23 + 173) + 5) x5) = (b27 : Int)) ∧ (im_num e b27) ∧ im_T g (d - 1) 118 0 [some (.ref 1459), some (vI 4), some (vL p1), none, some (vL 0), none, some (vL 0), none, some (.ref b27)] [] e M4 (im_ri (fun x31 e_ M30 => e = e_ ∧ (im_i32 x31) ∧ ((¬ x31 = 0 → ∃ b34 : Nat, ((M30 931 4) = (b34 : Int)) ∧ (im_state e b34) ∧ ∃ b37 : Nat, ((M30 932 0) = (b37 : Int)) ∧ (im_num e b37) ∧ im_T g (d - 1) 141 0 [some (.ref (b34 + 173)), some (vL p1), none, some (vL 0), none, some (.ref b37), none] [] e M30 (im_ri (fun x41 e_ M40 => e = e_ ∧ (im_i32 x41) ∧ ((∀ x44 : Int, (((x41 = 0) ∧ x44 = (-9)) ∨ ((¬ x41 = 0) ∧ x44 = 0)) → K (.inl (some (vI x44))) e M40))))) ∧ (x31 = 0 → K (.inl (some (vI (-9)))) e M30))))))))) : im_T g d 140 0 [some (.ref 931), some (vL p1), none, none] [] e M K := by
  refine im_ld (q := 1) (i := 0) D140_0 rfl rfl rfl ?_
  obtain ⟨b1, hb2, hP⟩ := hP
  obtain ⟨hb3, hP⟩ := hP
  refine im_gfD (q := 4) D140_1 (im_fl cn_140 fl_2_31) sf_931 rfl rfl tR_2_4 rfl hb2 ?_
  refine im_gfR (q := 7) (b := (b1 + 173)) D140_4 (im_fl cn_140 fl_2_151) hb3.1 rfl rfl tR_9_2 rfl ?_
  refine im_ld (q := 8) (i := 1) D140_7 rfl rfl rfl ?_
  refine im_lconst (q := 9) (z := 0) D140_8 rfl ?_
  refine im_callV (q := 12) (kd := 1) (y := 88) (n := 2) (ci := 0) (a := (b1 + 173)) (vs := [.ref (b1 + 173), vL p1, vL 0]) (r := []) (L2 := [some (.ref (b1 + 173)), some (vL p1), none, some (vL 0), none, none]) D140_9 (im_cal cn_140 cl_2_158) (Or.inl rfl) rfl hb3.2.2.2.1 rfl rfl rfl rfl hd ⟨rfl, rfl, rfl, trivial⟩ ?_
  refine hP.mono ?_
  rintro _ e50 M4 ⟨x5, rfl, rfl, hP⟩
  refine im_bkS ?_
  refine im_st1 (q := 13) (i := 3) (L' := [some (.ref 931), some (vL p1), none, some (vI x5)]) D140_12 (Or.inl ⟨_, rfl, rfl⟩) (Nat.le_of_ble_eq_true rfl) rfl ?_
  refine im_ld (q := 14) (i := 3) D140_13 rfl rfl rfl ?_
  obtain ⟨hg6, hP⟩ := hP
  refine im_ifc (q := 17) (t := 46) D140_14 rfl hg6 (fun hc7 => ?_) (fun hc7 => ?_)
  · replace hP := hP.1 hc7
    refine im_ld (q := 47) (i := 0) D140_46 rfl rfl rfl ?_
    obtain ⟨b8, hb9, hP⟩ := hP
    obtain ⟨hb10, hP⟩ := hP
    refine im_gfD (q := 50) D140_47 (im_fl cn_140 fl_2_31) sf_931 rfl rfl tR_2_4 rfl hb9 ?_
    refine im_gfR (q := 53) (b := (b8 + 173)) D140_50 (im_fl cn_140 fl_2_151) hb10.1 rfl rfl tR_9_2 rfl ?_
    refine im_ld (q := 54) (i := 1) D140_53 rfl rfl rfl ?_
    refine im_lconst (q := 55) (z := 0) D140_54 rfl ?_
    refine im_ld (q := 56) (i := 0) D140_55 rfl rfl rfl ?_
    refine im_gfR (q := 59) (b := 932) D140_56 (im_fl cn_140 fl_2_11) sf_931 rfl rfl tR_2_1 rfl ?_
    refine im_iconst (q := 60) D140_59 ?_
    obtain ⟨b11, hb12, hP⟩ := hP
    obtain ⟨hb13, hP⟩ := hP
    refine im_aald (q := 61) D140_60 sf_932 (Or.inl rfl) (by decide) (by decide) (by decide) hb12 ?_
    refine im_callV (q := 64) (kd := 1) (y := 141) (n := 3) (ci := 0) (a := (b8 + 173)) (vs := [.ref (b8 + 173), vL p1, vL 0, .ref b11]) (r := []) (L2 := [some (.ref (b8 + 173)), some (vL p1), none, some (vL 0), none, some (.ref b11), none]) D140_61 (im_cal cn_140 cl_2_237) (Or.inl rfl) rfl hb10.2.2.2.1 rfl rfl rfl rfl hd ⟨rfl, rfl, rfl, rfl, trivial⟩ ?_
    refine hP.mono ?_
    rintro _ e22 M14 ⟨x15, rfl, rfl, hP⟩
    refine im_bkS ?_
    obtain ⟨hg16, hP⟩ := hP
    have hJ19 := hP
    have kJ20 : ∀ x18 : Int, (((x15 = 0) ∧ x18 = (-9)) ∨ ((¬ x15 = 0) ∧ x18 = 0)) → im_T g d 140 73 [none, none, none, none] [vI x18] e M14 K := by
      intro x18 hx21
      have hP := hJ19 x18 hx21
      exact im_iret (q := 74) D140_73 rfl hP
    refine im_ifc (q := 67) (t := 71) D140_64 rfl hg16 (fun hc17 => ?_) (fun hc17 => ?_)
    · refine im_bipush (q := 73) D140_71 rfl ?_
      exact (kJ20 ((-9)) (Or.inl ⟨hc17, rfl⟩)).wk trivial
    · refine im_iconst (q := 68) D140_67 ?_
      refine im_goto (q := 71) (t := 73) D140_68 rfl ?_
      exact (kJ20 (0) (Or.inr ⟨hc17, rfl⟩)).wk trivial
  · replace hP := hP.2 (Int.not_lt.mp hc7)
    refine im_ld (q := 18) (i := 0) D140_17 rfl rfl rfl ?_
    refine im_gfR (q := 21) (b := 1459) D140_18 (im_fl cn_140 fl_2_52) sf_931 rfl rfl tR_2_9 rfl ?_
    refine im_iconst (q := 22) D140_21 ?_
    refine im_ld (q := 23) (i := 1) D140_22 rfl rfl rfl ?_
    refine im_lconst (q := 24) (z := 0) D140_23 rfl ?_
    refine im_lconst (q := 25) (z := 0) D140_24 rfl ?_
    refine im_ld (q := 26) (i := 0) D140_25 rfl rfl rfl ?_
    obtain ⟨b23, hb24, hP⟩ := hP
    obtain ⟨hb25, hP⟩ := hP
    refine im_gfD (q := 29) D140_26 (im_fl cn_140 fl_2_31) sf_931 rfl rfl tR_2_4 rfl hb24 ?_
    refine im_gfR (q := 32) (b := (b23 + 173)) D140_29 (im_fl cn_140 fl_2_151) hb25.1 rfl rfl tR_9_2 rfl ?_
    refine im_gfR (q := 35) (b := ((b23 + 173) + 5)) D140_32 (im_fl cn_140 fl_2_208) hb25.2.2.2.1 rfl rfl tR_0_2 rfl ?_
    refine im_ld (q := 36) (i := 3) D140_35 rfl rfl rfl ?_
    obtain ⟨hg26, hP⟩ := hP
    obtain ⟨b27, hb28, hP⟩ := hP
    obtain ⟨hb29, hP⟩ := hP
    refine im_aald (q := 37) D140_36 hb25.2.2.2.2.2.2.1 (Or.inl rfl) hg26.1 hg26.2 (by decide) hb28 ?_
    refine im_callV (q := 40) (kd := 1) (y := 118) (n := 5) (ci := 7) (a := 1459) (vs := [.ref 1459, vI 4, vL p1, vL 0, vL 0, .ref b27]) (r := []) (L2 := [some (.ref 1459), some (vI 4), some (vL p1), none, some (vL 0), none, some (vL 0), none, some (.ref b27)]) D140_37 (im_cal cn_140 cl_2_234) (Or.inl rfl) rfl sf_1459 rfl rfl rfl rfl hd ⟨rfl, rfl, rfl, rfl, rfl, rfl, trivial⟩ ?_
    refine hP.mono ?_
    rintro _ e49 M30 ⟨x31, rfl, rfl, hP⟩
    refine im_bkS ?_
    obtain ⟨hg32, hP⟩ := hP
    refine im_ifc (q := 43) (t := 46) D140_40 rfl hg32 (fun hc33 => ?_) (fun hc33 => ?_)
    · replace hP := hP.1 hc33
      refine im_ld (q := 47) (i := 0) D140_46 rfl rfl rfl ?_
      obtain ⟨b34, hb35, hP⟩ := hP
      obtain ⟨hb36, hP⟩ := hP
      refine im_gfD (q := 50) D140_47 (im_fl cn_140 fl_2_31) sf_931 rfl rfl tR_2_4 rfl hb35 ?_
      refine im_gfR (q := 53) (b := (b34 + 173)) D140_50 (im_fl cn_140 fl_2_151) hb36.1 rfl rfl tR_9_2 rfl ?_
      refine im_ld (q := 54) (i := 1) D140_53 rfl rfl rfl ?_
      refine im_lconst (q := 55) (z := 0) D140_54 rfl ?_
      refine im_ld (q := 56) (i := 0) D140_55 rfl rfl rfl ?_
      refine im_gfR (q := 59) (b := 932) D140_56 (im_fl cn_140 fl_2_11) sf_931 rfl rfl tR_2_1 rfl ?_
      refine im_iconst (q := 60) D140_59 ?_
      obtain ⟨b37, hb38, hP⟩ := hP
      obtain ⟨hb39, hP⟩ := hP
      refine im_aald (q := 61) D140_60 sf_932 (Or.inl rfl) (by decide) (by decide) (by decide) hb38 ?_
      refine im_callV (q := 64) (kd := 1) (y := 141) (n := 3) (ci := 0) (a := (b34 + 173)) (vs := [.ref (b34 + 173), vL p1, vL 0, .ref b37]) (r := []) (L2 := [some (.ref (b34 + 173)), some (vL p1), none, some (vL 0), none, some (.ref b37), none]) D140_61 (im_cal cn_140 cl_2_237) (Or.inl rfl) rfl hb36.2.2.2.1 rfl rfl rfl rfl hd ⟨rfl, rfl, rfl, rfl, trivial⟩ ?_
      refine hP.mono ?_
      rintro _ e48 M40 ⟨x41, rfl, rfl, hP⟩
      refine im_bkS ?_
      obtain ⟨hg42, hP⟩ := hP
      have hJ45 := hP
      have kJ46 : ∀ x44 : Int, (((x41 = 0) ∧ x44 = (-9)) ∨ ((¬ x41 = 0) ∧ x44 = 0)) → im_T g d 140 73 [none, none, none, none] [vI x44] e M40 K := by
        intro x44 hx47
        have hP := hJ45 x44 hx47
        exact im_iret (q := 74) D140_73 rfl hP
      refine im_ifc (q := 67) (t := 71) D140_64 rfl hg42 (fun hc43 => ?_) (fun hc43 => ?_)
      · refine im_bipush (q := 73) D140_71 rfl ?_
        exact (kJ46 ((-9)) (Or.inl ⟨hc43, rfl⟩)).wk trivial
      · refine im_iconst (q := 68) D140_67 ?_
        refine im_goto (q := 71) (t := 73) D140_68 rfl ?_
        exact (kJ46 (0) (Or.inr ⟨hc43, rfl⟩)).wk trivial
    · replace hP := hP.2 (Decidable.not_not.mp hc33)
      refine im_bipush (q := 45) D140_43 rfl ?_
      exact im_iret (q := 46) D140_45 rfl hP
set_option maxRecDepth 20000 in
set_option maxHeartbeats 4000000 in
theorem k_Book_put_0 {g : im_g} {d : Nat} {e : im_E} {M : im_M} {K : im_K} {p1 p3 : Int} {a0 na0 : Nat} (ha0 : im_book e a0 na0) {p5 : Nat} (hp5 : im_num e p5) (hd : 1 ≤ d) (hP : im_T g (d - 1) 88 0 [some (.ref a0), some (vL p1), none, some (vL p3), none, none] [] e M (im_ri (fun x2 e_ M1 => e = e_ ∧ (im_i32 x2) ∧ ((0 ≤ x2 → (0 ≤ x2 ∧ x2 < na0) ∧ ∃ b6 : Nat, ((M1 (a0 + 5) x2) = (b6 : Int)) ∧ (im_num e b6) ∧ im_T g (d - 1) 66 0 [some (.ref b6), some (.ref p5), none] [] e M1 (im_r0 (fun  e_ M9 => e = e_ ∧ K (.inl (some (vI 1))) e M9))) ∧ (x2 < 0 → im_T g (d - 1) 100 0 [some (.ref a0), some (vI ((-1) - x2)), some (vL p1), none, some (vL p3), none, none, none] [] e M1 (im_ri (fun x12 e_ M11 => e = e_ ∧ (im_i32 x12) ∧ ((¬ x12 = 0 → (0 ≤ ((-1) - x2) ∧ ((-1) - x2) < na0) ∧ ∃ b16 : Nat, ((M11 (a0 + 5) ((-1) - x2)) = (b16 : Int)) ∧ (im_num e b16) ∧ im_T g (d - 1) 66 0 [some (.ref b16), some (.ref p5), none] [] e M11 (im_r0 (fun  e_ M19 => e = e_ ∧ K (.inl (some (vI 1))) e M19))) ∧ (x12 = 0 → K (.inl (some (vI 0))) e M11))))))))) : im_T g d 141 0 [some (.ref a0), some (vL p1), none, some (vL p3), none, some (.ref p5), none] [] e M K := by
  refine im_ld (q := 1) (i := 0) D141_0 rfl rfl rfl ?_
  refine im_ld (q := 2) (i := 1) D141_1 rfl rfl rfl ?_
  refine im_ld (q := 3) (i := 3) D141_2 rfl rfl rfl ?_
  refine im_callV (q := 6) (kd := 1) (y := 88) (n := 2) (ci := 0) (a := a0) (vs := [.ref a0, vL p1, vL p3]) (r := []) (L2 := [some (.ref a0), some (vL p1), none, some (vL p3), none, none]) D141_3 (im_cal cn_141 cl_0_43) (Or.inl rfl) rfl ha0.1 rfl rfl rfl rfl hd ⟨rfl, rfl, rfl, trivial⟩ ?_
  refine hP.mono ?_
  rintro _ e22 M1 ⟨x2, rfl, rfl, hP⟩
  refine im_bkS ?_
  refine im_st1 (q := 8) (i := 6) (L' := [some (.ref a0), some (vL p1), none, some (vL p3), none, some (.ref p5), some (vI x2)]) D141_6 (Or.inr rfl) (Nat.le_of_ble_eq_true rfl) rfl ?_
  refine im_ld (q := 10) (i := 6) D141_8 rfl rfl rfl ?_
  obtain ⟨hg3, hP⟩ := hP
  refine im_ifc (q := 13) (t := 32) D141_10 rfl hg3 (fun hc4 => ?_) (fun hc4 => ?_)
  · replace hP := hP.1 hc4
    refine im_ld (q := 33) (i := 0) D141_32 rfl rfl rfl ?_
    refine im_gfR (q := 36) (b := (a0 + 5)) D141_33 (im_fl cn_141 fl_0_25) ha0.1 rfl rfl tR_0_2 rfl ?_
    refine im_ld (q := 38) (i := 6) D141_36 rfl rfl rfl ?_
    obtain ⟨hg5, hP⟩ := hP
    obtain ⟨b6, hb7, hP⟩ := hP
    obtain ⟨hb8, hP⟩ := hP
    refine im_aald (q := 39) D141_38 ha0.2.2.2.1 (Or.inl rfl) hg5.1 hg5.2 (Nat.le_trans ha0.2.2.2.2.2 (by decide)) hb7 ?_
    refine im_ld (q := 41) (i := 5) D141_39 rfl rfl rfl ?_
    refine im_callV (q := 44) (kd := 1) (y := 66) (n := 1) (ci := 3) (a := b6) (vs := [.ref b6, .ref p5]) (r := []) (L2 := [some (.ref b6), some (.ref p5), none]) D141_41 (im_cal cn_141 cl_0_39) (Or.inl rfl) rfl hb8.1 rfl rfl rfl rfl hd ⟨rfl, rfl, trivial⟩ ?_
    refine hP.mono ?_
    rintro _ e10 M9 ⟨rfl, rfl, hP⟩
    refine im_bkN ?_
    refine im_iconst (q := 45) D141_44 ?_
    exact im_zret (q := 46) D141_45 rfl (by decide) hP
  · replace hP := hP.2 (Int.not_le.mp hc4)
    refine im_iconst (q := 14) D141_13 ?_
    refine im_ld (q := 16) (i := 6) D141_14 rfl rfl rfl ?_
    refine im_isub (q := 17) D141_16 ?_
    refine im_st1 (q := 19) (i := 6) (L' := [some (.ref a0), some (vL p1), none, some (vL p3), none, some (.ref p5), some (vI ((-1) - x2))]) D141_17 (Or.inr rfl) (Nat.le_of_ble_eq_true rfl) rfl ?_
    refine im_ld (q := 20) (i := 0) D141_19 rfl rfl rfl ?_
    refine im_ld (q := 22) (i := 6) D141_20 rfl rfl rfl ?_
    refine im_ld (q := 23) (i := 1) D141_22 rfl rfl rfl ?_
    refine im_ld (q := 24) (i := 3) D141_23 rfl rfl rfl ?_
    refine im_callV (q := 27) (kd := 1) (y := 100) (n := 3) (ci := 0) (a := a0) (vs := [.ref a0, vI ((-1) - x2), vL p1, vL p3]) (r := []) (L2 := [some (.ref a0), some (vI ((-1) - x2)), some (vL p1), none, some (vL p3), none, none, none]) D141_24 (im_cal cn_141 cl_0_47) (Or.inl rfl) rfl ha0.1 rfl rfl rfl rfl hd ⟨rfl, rfl, rfl, rfl, trivial⟩ ?_
    refine hP.mono ?_
    rintro _ e21 M11 ⟨x12, rfl, rfl, hP⟩
    refine im_bkS ?_
    obtain ⟨hg13, hP⟩ := hP
    refine im_ifc (q := 30) (t := 32) D141_27 rfl hg13 (fun hc14 => ?_) (fun hc14 => ?_)
    · replace hP := hP.1 hc14
      refine im_ld (q := 33) (i := 0) D141_32 rfl rfl rfl ?_
      refine im_gfR (q := 36) (b := (a0 + 5)) D141_33 (im_fl cn_141 fl_0_25) ha0.1 rfl rfl tR_0_2 rfl ?_
      refine im_ld (q := 38) (i := 6) D141_36 rfl rfl rfl ?_
      obtain ⟨hg15, hP⟩ := hP
      obtain ⟨b16, hb17, hP⟩ := hP
      obtain ⟨hb18, hP⟩ := hP
      refine im_aald (q := 39) D141_38 ha0.2.2.2.1 (Or.inl rfl) hg15.1 hg15.2 (Nat.le_trans ha0.2.2.2.2.2 (by decide)) hb17 ?_
      refine im_ld (q := 41) (i := 5) D141_39 rfl rfl rfl ?_
      refine im_callV (q := 44) (kd := 1) (y := 66) (n := 1) (ci := 3) (a := b16) (vs := [.ref b16, .ref p5]) (r := []) (L2 := [some (.ref b16), some (.ref p5), none]) D141_41 (im_cal cn_141 cl_0_39) (Or.inl rfl) rfl hb18.1 rfl rfl rfl rfl hd ⟨rfl, rfl, trivial⟩ ?_
      refine hP.mono ?_
      rintro _ e20 M19 ⟨rfl, rfl, hP⟩
      refine im_bkN ?_
      refine im_iconst (q := 45) D141_44 ?_
      exact im_zret (q := 46) D141_45 rfl (by decide) hP
    · replace hP := hP.2 (Decidable.not_not.mp hc14)
      refine im_iconst (q := 31) D141_30 ?_
      exact im_zret (q := 32) D141_31 rfl (by decide) hP

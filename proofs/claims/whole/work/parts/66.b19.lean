/-! blocks of the reference -/
theorem D438_0 {g : im_g} : im_D g 438 0 (.aload_n 0) 1 := im_D.of (by decide +kernel)
theorem D438_1 {g : im_g} : im_D g 438 1 (.getfield 378) 4 := im_D.of (by decide +kernel)
theorem D438_4 {g : im_g} : im_D g 438 4 (.iload_n 1) 5 := im_D.of (by decide +kernel)
theorem D438_5 {g : im_g} : im_D g 438 5 (.iaload) 6 := im_D.of (by decide +kernel)
theorem D438_6 {g : im_g} : im_D g 438 6 (.ifCond .ne 13) 9 := im_D.of (by decide +kernel)
theorem D438_9 {g : im_g} : im_D g 438 9 (.aload_n 0) 10 := im_D.of (by decide +kernel)
theorem D438_10 {g : im_g} : im_D g 438 10 (.ldc2_w 1098) 13 := im_D.of (by decide +kernel)
theorem D438_13 {g : im_g} : im_D g 438 13 (.invokevirtual 750) 16 := im_D.of (by decide +kernel)
theorem D438_16 {g : im_g} : im_D g 438 16 (.goto 119) 19 := im_D.of (by decide +kernel)
theorem D438_19 {g : im_g} : im_D g 438 19 (.aload_n 0) 20 := im_D.of (by decide +kernel)
theorem D438_20 {g : im_g} : im_D g 438 20 (.aload_n 0) 21 := im_D.of (by decide +kernel)
theorem D438_21 {g : im_g} : im_D g 438 21 (.getfield 378) 24 := im_D.of (by decide +kernel)
theorem D438_24 {g : im_g} : im_D g 438 24 (.iload_n 1) 25 := im_D.of (by decide +kernel)
theorem D438_25 {g : im_g} : im_D g 438 25 (.iaload) 26 := im_D.of (by decide +kernel)
theorem D438_26 {g : im_g} : im_D g 438 26 (.bipush 8) 28 := im_D.of (by decide +kernel)
theorem D438_28 {g : im_g} : im_D g 438 28 (.if_icmp .ne 9) 31 := im_D.of (by decide +kernel)
theorem D438_31 {g : im_g} : im_D g 438 31 (.ldc2_w 519) 34 := im_D.of (by decide +kernel)
theorem D438_34 {g : im_g} : im_D g 438 34 (.goto 23) 37 := im_D.of (by decide +kernel)
theorem D438_37 {g : im_g} : im_D g 438 37 (.aload_n 0) 38 := im_D.of (by decide +kernel)
theorem D438_38 {g : im_g} : im_D g 438 38 (.getfield 378) 41 := im_D.of (by decide +kernel)
theorem D438_41 {g : im_g} : im_D g 438 41 (.iload_n 1) 42 := im_D.of (by decide +kernel)
theorem D438_42 {g : im_g} : im_D g 438 42 (.iaload) 43 := im_D.of (by decide +kernel)
theorem D438_43 {g : im_g} : im_D g 438 43 (.bipush 9) 45 := im_D.of (by decide +kernel)
theorem D438_45 {g : im_g} : im_D g 438 45 (.if_icmp .ne 9) 48 := im_D.of (by decide +kernel)
theorem D438_48 {g : im_g} : im_D g 438 48 (.ldc2_w 521) 51 := im_D.of (by decide +kernel)
theorem D438_51 {g : im_g} : im_D g 438 51 (.goto 6) 54 := im_D.of (by decide +kernel)
theorem D438_54 {g : im_g} : im_D g 438 54 (.ldc2_w 523) 57 := im_D.of (by decide +kernel)
theorem D438_57 {g : im_g} : im_D g 438 57 (.invokevirtual 750) 60 := im_D.of (by decide +kernel)
theorem D438_60 {g : im_g} : im_D g 438 60 (.aload_n 0) 61 := im_D.of (by decide +kernel)
theorem D438_61 {g : im_g} : im_D g 438 61 (.getfield 378) 64 := im_D.of (by decide +kernel)
theorem D438_64 {g : im_g} : im_D g 438 64 (.iload_n 1) 65 := im_D.of (by decide +kernel)
theorem D438_65 {g : im_g} : im_D g 438 65 (.iaload) 66 := im_D.of (by decide +kernel)
theorem D438_66 {g : im_g} : im_D g 438 66 (.bipush 10) 68 := im_D.of (by decide +kernel)
theorem D438_68 {g : im_g} : im_D g 438 68 (.if_icmp .eq 60) 71 := im_D.of (by decide +kernel)
theorem D438_71 {g : im_g} : im_D g 438 71 (.aload_n 0) 72 := im_D.of (by decide +kernel)
theorem D438_72 {g : im_g} : im_D g 438 72 (.aload_n 0) 73 := im_D.of (by decide +kernel)
theorem D438_73 {g : im_g} : im_D g 438 73 (.getfield 381) 76 := im_D.of (by decide +kernel)
theorem D438_76 {g : im_g} : im_D g 438 76 (.iload_n 1) 77 := im_D.of (by decide +kernel)
theorem D438_77 {g : im_g} : im_D g 438 77 (.laload) 78 := im_D.of (by decide +kernel)
theorem D438_78 {g : im_g} : im_D g 438 78 (.invokevirtual 750) 81 := im_D.of (by decide +kernel)
theorem D438_81 {g : im_g} : im_D g 438 81 (.aload_n 0) 82 := im_D.of (by decide +kernel)
theorem D438_82 {g : im_g} : im_D g 438 82 (.aload_n 0) 83 := im_D.of (by decide +kernel)
theorem D438_83 {g : im_g} : im_D g 438 83 (.getfield 384) 86 := im_D.of (by decide +kernel)
theorem D438_86 {g : im_g} : im_D g 438 86 (.iload_n 1) 87 := im_D.of (by decide +kernel)
theorem D438_87 {g : im_g} : im_D g 438 87 (.laload) 88 := im_D.of (by decide +kernel)
theorem D438_88 {g : im_g} : im_D g 438 88 (.invokevirtual 750) 91 := im_D.of (by decide +kernel)
theorem D438_91 {g : im_g} : im_D g 438 91 (.aload_n 0) 92 := im_D.of (by decide +kernel)
theorem D438_92 {g : im_g} : im_D g 438 92 (.getfield 378) 95 := im_D.of (by decide +kernel)
theorem D438_95 {g : im_g} : im_D g 438 95 (.iload_n 1) 96 := im_D.of (by decide +kernel)
theorem D438_96 {g : im_g} : im_D g 438 96 (.iaload) 97 := im_D.of (by decide +kernel)
theorem D438_97 {g : im_g} : im_D g 438 97 (.bipush 8) 99 := im_D.of (by decide +kernel)
theorem D438_99 {g : im_g} : im_D g 438 99 (.if_icmp .ne 13) 102 := im_D.of (by decide +kernel)
theorem D438_102 {g : im_g} : im_D g 438 102 (.aload_n 0) 103 := im_D.of (by decide +kernel)
theorem D438_103 {g : im_g} : im_D g 438 103 (.aload_n 0) 104 := im_D.of (by decide +kernel)
theorem D438_104 {g : im_g} : im_D g 438 104 (.getfield 387) 107 := im_D.of (by decide +kernel)
theorem D438_107 {g : im_g} : im_D g 438 107 (.iload_n 1) 108 := im_D.of (by decide +kernel)
theorem D438_108 {g : im_g} : im_D g 438 108 (.laload) 109 := im_D.of (by decide +kernel)
theorem D438_109 {g : im_g} : im_D g 438 109 (.invokevirtual 750) 112 := im_D.of (by decide +kernel)
theorem D438_112 {g : im_g} : im_D g 438 112 (.aload_n 0) 113 := im_D.of (by decide +kernel)
theorem D438_113 {g : im_g} : im_D g 438 113 (.bipush 32) 115 := im_D.of (by decide +kernel)
theorem D438_115 {g : im_g} : im_D g 438 115 (.invokevirtual 432) 118 := im_D.of (by decide +kernel)
theorem D438_118 {g : im_g} : im_D g 438 118 (.aload_n 0) 119 := im_D.of (by decide +kernel)
theorem D438_119 {g : im_g} : im_D g 438 119 (.aload_n 0) 120 := im_D.of (by decide +kernel)
theorem D438_120 {g : im_g} : im_D g 438 120 (.getfield 390) 123 := im_D.of (by decide +kernel)
theorem D438_123 {g : im_g} : im_D g 438 123 (.iload_n 1) 124 := im_D.of (by decide +kernel)
theorem D438_124 {g : im_g} : im_D g 438 124 (.iaload) 125 := im_D.of (by decide +kernel)
theorem D438_125 {g : im_g} : im_D g 438 125 (.invokevirtual 756) 128 := im_D.of (by decide +kernel)
theorem D438_128 {g : im_g} : im_D g 438 128 (.aload_n 0) 129 := im_D.of (by decide +kernel)
theorem D438_129 {g : im_g} : im_D g 438 129 (.ldc2_w 1100) 132 := im_D.of (by decide +kernel)
theorem D438_132 {g : im_g} : im_D g 438 132 (.invokevirtual 750) 135 := im_D.of (by decide +kernel)
theorem D438_135 {g : im_g} : im_D g 438 135 (.aload_n 0) 136 := im_D.of (by decide +kernel)
theorem D438_136 {g : im_g} : im_D g 438 136 (.bipush 32) 138 := im_D.of (by decide +kernel)
theorem D438_138 {g : im_g} : im_D g 438 138 (.invokevirtual 432) 141 := im_D.of (by decide +kernel)
theorem D438_141 {g : im_g} : im_D g 438 141 (.aload_n 0) 142 := im_D.of (by decide +kernel)
theorem D438_142 {g : im_g} : im_D g 438 142 (.aload_n 0) 143 := im_D.of (by decide +kernel)
theorem D438_143 {g : im_g} : im_D g 438 143 (.getfield 393) 146 := im_D.of (by decide +kernel)
theorem D438_146 {g : im_g} : im_D g 438 146 (.iload_n 1) 147 := im_D.of (by decide +kernel)
theorem D438_147 {g : im_g} : im_D g 438 147 (.laload) 148 := im_D.of (by decide +kernel)
theorem D438_148 {g : im_g} : im_D g 438 148 (.invokevirtual 773) 151 := im_D.of (by decide +kernel)
theorem D438_151 {g : im_g} : im_D g 438 151 (.return_) 152 := im_D.of (by decide +kernel)
theorem D439_0 {g : im_g} : im_D g 439 0 (.aload_n 0) 1 := im_D.of (by decide +kernel)
theorem D439_1 {g : im_g} : im_D g 439 1 (.iconst 1) 2 := im_D.of (by decide +kernel)
theorem D439_2 {g : im_g} : im_D g 439 2 (.iconst 1) 3 := im_D.of (by decide +kernel)
theorem D439_3 {g : im_g} : im_D g 439 3 (.iconst 1) 4 := im_D.of (by decide +kernel)
theorem D439_4 {g : im_g} : im_D g 439 4 (.iconst 1) 5 := im_D.of (by decide +kernel)
theorem D439_5 {g : im_g} : im_D g 439 5 (.invokevirtual 419) 8 := im_D.of (by decide +kernel)
theorem D439_8 {g : im_g} : im_D g 439 8 (.ifCond .eq 10) 11 := im_D.of (by decide +kernel)
theorem D439_11 {g : im_g} : im_D g 439 11 (.aload_n 0) 12 := im_D.of (by decide +kernel)
theorem D439_12 {g : im_g} : im_D g 439 12 (.getfield 1111) 15 := im_D.of (by decide +kernel)
theorem D439_15 {g : im_g} : im_D g 439 15 (.goto 4) 18 := im_D.of (by decide +kernel)
theorem D439_18 {g : im_g} : im_D g 439 18 (.iconst 0) 19 := im_D.of (by decide +kernel)
theorem D439_19 {g : im_g} : im_D g 439 19 (.ireturn) 20 := im_D.of (by decide +kernel)
theorem D440_0 {g : im_g} : im_D g 440 0 (.aload_n 0) 1 := im_D.of (by decide +kernel)
theorem D440_1 {g : im_g} : im_D g 440 1 (.iconst 2) 2 := im_D.of (by decide +kernel)
theorem D440_2 {g : im_g} : im_D g 440 2 (.iload_n 1) 3 := im_D.of (by decide +kernel)
theorem D440_3 {g : im_g} : im_D g 440 3 (.iconst (-1)) 4 := im_D.of (by decide +kernel)
theorem D440_4 {g : im_g} : im_D g 440 4 (.if_icmp .lt 7) 7 := im_D.of (by decide +kernel)
theorem D440_7 {g : im_g} : im_D g 440 7 (.iconst 1) 8 := im_D.of (by decide +kernel)
theorem D440_8 {g : im_g} : im_D g 440 8 (.goto 4) 11 := im_D.of (by decide +kernel)
theorem D440_11 {g : im_g} : im_D g 440 11 (.iconst 0) 12 := im_D.of (by decide +kernel)
theorem D440_12 {g : im_g} : im_D g 440 12 (.iconst 1) 13 := im_D.of (by decide +kernel)
theorem D440_13 {g : im_g} : im_D g 440 13 (.iconst 1) 14 := im_D.of (by decide +kernel)
theorem D440_14 {g : im_g} : im_D g 440 14 (.invokevirtual 419) 17 := im_D.of (by decide +kernel)
theorem D440_17 {g : im_g} : im_D g 440 17 (.ifCond .eq 8) 20 := im_D.of (by decide +kernel)
theorem D440_20 {g : im_g} : im_D g 440 20 (.aload_n 0) 21 := im_D.of (by decide +kernel)
theorem D440_21 {g : im_g} : im_D g 440 21 (.iload_n 1) 22 := im_D.of (by decide +kernel)
theorem D440_22 {g : im_g} : im_D g 440 22 (.putfield 399) 25 := im_D.of (by decide +kernel)
theorem D440_25 {g : im_g} : im_D g 440 25 (.return_) 26 := im_D.of (by decide +kernel)
theorem D441_0 {g : im_g} : im_D g 441 0 (.aload_n 0) 1 := im_D.of (by decide +kernel)
theorem D441_1 {g : im_g} : im_D g 441 1 (.iload_n 1) 2 := im_D.of (by decide +kernel)
theorem D441_2 {g : im_g} : im_D g 441 2 (.i2l) 3 := im_D.of (by decide +kernel)
theorem D441_3 {g : im_g} : im_D g 441 3 (.lconst 0) 4 := im_D.of (by decide +kernel)
theorem D441_4 {g : im_g} : im_D g 441 4 (.ldc2_w 1157) 7 := im_D.of (by decide +kernel)
theorem D441_7 {g : im_g} : im_D g 441 7 (.invokestatic 428) 10 := im_D.of (by decide +kernel)
theorem D441_10 {g : im_g} : im_D g 441 10 (.ifCond .eq 7) 13 := im_D.of (by decide +kernel)
theorem D441_13 {g : im_g} : im_D g 441 13 (.iconst 0) 14 := im_D.of (by decide +kernel)
theorem D441_14 {g : im_g} : im_D g 441 14 (.goto 4) 17 := im_D.of (by decide +kernel)
theorem D441_17 {g : im_g} : im_D g 441 17 (.iconst 1) 18 := im_D.of (by decide +kernel)
theorem D441_18 {g : im_g} : im_D g 441 18 (.putfield 409) 21 := im_D.of (by decide +kernel)
theorem D441_21 {g : im_g} : im_D g 441 21 (.aload_n 0) 22 := im_D.of (by decide +kernel)
theorem D441_22 {g : im_g} : im_D g 441 22 (.getfield 409) 25 := im_D.of (by decide +kernel)
theorem D441_25 {g : im_g} : im_D g 441 25 (.ifCond .le 7) 28 := im_D.of (by decide +kernel)
theorem D441_28 {g : im_g} : im_D g 441 28 (.iconst 0) 29 := im_D.of (by decide +kernel)
theorem D441_29 {g : im_g} : im_D g 441 29 (.goto 9) 32 := im_D.of (by decide +kernel)
theorem D441_32 {g : im_g} : im_D g 441 32 (.aload_n 0) 33 := im_D.of (by decide +kernel)
theorem D441_33 {g : im_g} : im_D g 441 33 (.getfield 396) 36 := im_D.of (by decide +kernel)
theorem D441_36 {g : im_g} : im_D g 441 36 (.iload_n 1) 37 := im_D.of (by decide +kernel)
theorem D441_37 {g : im_g} : im_D g 441 37 (.iaload) 38 := im_D.of (by decide +kernel)
theorem D441_38 {g : im_g} : im_D g 441 38 (.ireturn) 39 := im_D.of (by decide +kernel)
theorem D442_0 {g : im_g} : im_D g 442 0 (.aload_n 0) 1 := im_D.of (by decide +kernel)
theorem D442_1 {g : im_g} : im_D g 442 1 (.iload_n 1) 2 := im_D.of (by decide +kernel)
theorem D442_2 {g : im_g} : im_D g 442 2 (.i2l) 3 := im_D.of (by decide +kernel)
theorem D442_3 {g : im_g} : im_D g 442 3 (.lconst 0) 4 := im_D.of (by decide +kernel)
theorem D442_4 {g : im_g} : im_D g 442 4 (.ldc2_w 1157) 7 := im_D.of (by decide +kernel)
theorem D442_7 {g : im_g} : im_D g 442 7 (.invokestatic 428) 10 := im_D.of (by decide +kernel)
theorem D442_10 {g : im_g} : im_D g 442 10 (.ifCond .ne 7) 13 := im_D.of (by decide +kernel)
theorem D442_13 {g : im_g} : im_D g 442 13 (.iconst 1) 14 := im_D.of (by decide +kernel)
theorem D442_14 {g : im_g} : im_D g 442 14 (.goto 31) 17 := im_D.of (by decide +kernel)
theorem D442_17 {g : im_g} : im_D g 442 17 (.iload_n 2) 18 := im_D.of (by decide +kernel)
theorem D442_18 {g : im_g} : im_D g 442 18 (.i2l) 19 := im_D.of (by decide +kernel)
theorem D442_19 {g : im_g} : im_D g 442 19 (.lconst 0) 20 := im_D.of (by decide +kernel)
theorem D442_20 {g : im_g} : im_D g 442 20 (.ldc2_w 436) 23 := im_D.of (by decide +kernel)
theorem D442_23 {g : im_g} : im_D g 442 23 (.invokestatic 428) 26 := im_D.of (by decide +kernel)
theorem D442_26 {g : im_g} : im_D g 442 26 (.ifCond .ne 7) 29 := im_D.of (by decide +kernel)
theorem D442_29 {g : im_g} : im_D g 442 29 (.iconst 2) 30 := im_D.of (by decide +kernel)
theorem D442_30 {g : im_g} : im_D g 442 30 (.goto 15) 33 := im_D.of (by decide +kernel)
theorem D442_33 {g : im_g} : im_D g 442 33 (.aload_n 0) 34 := im_D.of (by decide +kernel)
theorem D442_34 {g : im_g} : im_D g 442 34 (.getfield 412) 37 := im_D.of (by decide +kernel)
theorem D442_37 {g : im_g} : im_D g 442 37 (.ifCond .ne 7) 40 := im_D.of (by decide +kernel)
theorem D442_40 {g : im_g} : im_D g 442 40 (.iconst 3) 41 := im_D.of (by decide +kernel)
theorem D442_41 {g : im_g} : im_D g 442 41 (.goto 4) 44 := im_D.of (by decide +kernel)
theorem D442_44 {g : im_g} : im_D g 442 44 (.iconst 0) 45 := im_D.of (by decide +kernel)
theorem D442_45 {g : im_g} : im_D g 442 45 (.putfield 409) 48 := im_D.of (by decide +kernel)
theorem D442_48 {g : im_g} : im_D g 442 48 (.aload_n 0) 49 := im_D.of (by decide +kernel)
theorem D442_49 {g : im_g} : im_D g 442 49 (.getfield 409) 52 := im_D.of (by decide +kernel)
theorem D442_52 {g : im_g} : im_D g 442 52 (.ifCond .le 5) 55 := im_D.of (by decide +kernel)
theorem D442_55 {g : im_g} : im_D g 442 55 (.iconst 0) 56 := im_D.of (by decide +kernel)
theorem D442_56 {g : im_g} : im_D g 442 56 (.ireturn) 57 := im_D.of (by decide +kernel)
theorem D442_57 {g : im_g} : im_D g 442 57 (.aload_n 0) 58 := im_D.of (by decide +kernel)
theorem D442_58 {g : im_g} : im_D g 442 58 (.getfield 396) 61 := im_D.of (by decide +kernel)
theorem D442_61 {g : im_g} : im_D g 442 61 (.iload_n 1) 62 := im_D.of (by decide +kernel)
theorem D442_62 {g : im_g} : im_D g 442 62 (.iaload) 63 := im_D.of (by decide +kernel)
theorem D442_63 {g : im_g} : im_D g 442 63 (.istore_n 3) 64 := im_D.of (by decide +kernel)
theorem D442_64 {g : im_g} : im_D g 442 64 (.aload_n 0) 65 := im_D.of (by decide +kernel)
theorem D442_65 {g : im_g} : im_D g 442 65 (.getfield 396) 68 := im_D.of (by decide +kernel)
theorem D442_68 {g : im_g} : im_D g 442 68 (.iload_n 1) 69 := im_D.of (by decide +kernel)
theorem D442_69 {g : im_g} : im_D g 442 69 (.iload_n 2) 70 := im_D.of (by decide +kernel)
theorem D442_70 {g : im_g} : im_D g 442 70 (.iastore) 71 := im_D.of (by decide +kernel)
theorem D442_71 {g : im_g} : im_D g 442 71 (.iload_n 3) 72 := im_D.of (by decide +kernel)
theorem D442_72 {g : im_g} : im_D g 442 72 (.ireturn) 73 := im_D.of (by decide +kernel)
theorem D443_0 {g : im_g} : im_D g 443 0 (.aload_n 0) 1 := im_D.of (by decide +kernel)
theorem D443_1 {g : im_g} : im_D g 443 1 (.iconst 1) 2 := im_D.of (by decide +kernel)
theorem D443_2 {g : im_g} : im_D g 443 2 (.iconst 1) 3 := im_D.of (by decide +kernel)
theorem D443_3 {g : im_g} : im_D g 443 3 (.iconst 1) 4 := im_D.of (by decide +kernel)
theorem D443_4 {g : im_g} : im_D g 443 4 (.iconst 1) 5 := im_D.of (by decide +kernel)
theorem D443_5 {g : im_g} : im_D g 443 5 (.invokevirtual 419) 8 := im_D.of (by decide +kernel)
theorem D443_8 {g : im_g} : im_D g 443 8 (.ifCond .eq 8) 11 := im_D.of (by decide +kernel)
theorem D443_11 {g : im_g} : im_D g 443 11 (.aload_n 0) 12 := im_D.of (by decide +kernel)
theorem D443_12 {g : im_g} : im_D g 443 12 (.iconst 1) 13 := im_D.of (by decide +kernel)
theorem D443_13 {g : im_g} : im_D g 443 13 (.putfield 412) 16 := im_D.of (by decide +kernel)
theorem D443_16 {g : im_g} : im_D g 443 16 (.return_) 17 := im_D.of (by decide +kernel)
theorem D444_0 {g : im_g} : im_D g 444 0 (.aload_n 0) 1 := im_D.of (by decide +kernel)
theorem D444_1 {g : im_g} : im_D g 444 1 (.iconst 0) 2 := im_D.of (by decide +kernel)
theorem D444_2 {g : im_g} : im_D g 444 2 (.putfield 409) 5 := im_D.of (by decide +kernel)
theorem D444_5 {g : im_g} : im_D g 444 5 (.aload_n 0) 6 := im_D.of (by decide +kernel)
theorem D444_6 {g : im_g} : im_D g 444 6 (.iconst 0) 7 := im_D.of (by decide +kernel)
theorem D444_7 {g : im_g} : im_D g 444 7 (.putfield 412) 10 := im_D.of (by decide +kernel)
theorem D444_10 {g : im_g} : im_D g 444 10 (.aload_n 0) 11 := im_D.of (by decide +kernel)
theorem D444_11 {g : im_g} : im_D g 444 11 (.iconst (-1)) 12 := im_D.of (by decide +kernel)
theorem D444_12 {g : im_g} : im_D g 444 12 (.putfield 399) 15 := im_D.of (by decide +kernel)
theorem D444_15 {g : im_g} : im_D g 444 15 (.aload_n 0) 16 := im_D.of (by decide +kernel)
theorem D444_16 {g : im_g} : im_D g 444 16 (.iconst 0) 17 := im_D.of (by decide +kernel)
theorem D444_17 {g : im_g} : im_D g 444 17 (.putfield 416) 20 := im_D.of (by decide +kernel)
theorem D444_20 {g : im_g} : im_D g 444 20 (.aload_n 0) 21 := im_D.of (by decide +kernel)
theorem D444_21 {g : im_g} : im_D g 444 21 (.iconst 0) 22 := im_D.of (by decide +kernel)
theorem D444_22 {g : im_g} : im_D g 444 22 (.putfield 423) 25 := im_D.of (by decide +kernel)
theorem D444_25 {g : im_g} : im_D g 444 25 (.aload_n 0) 26 := im_D.of (by decide +kernel)
theorem D444_26 {g : im_g} : im_D g 444 26 (.iconst 0) 27 := im_D.of (by decide +kernel)
theorem D444_27 {g : im_g} : im_D g 444 27 (.putfield 794) 30 := im_D.of (by decide +kernel)
theorem D444_30 {g : im_g} : im_D g 444 30 (.aload_n 0) 31 := im_D.of (by decide +kernel)
theorem D444_31 {g : im_g} : im_D g 444 31 (.iconst 0) 32 := im_D.of (by decide +kernel)
theorem D444_32 {g : im_g} : im_D g 444 32 (.putfield 1032) 35 := im_D.of (by decide +kernel)
theorem D444_35 {g : im_g} : im_D g 444 35 (.aload_n 0) 36 := im_D.of (by decide +kernel)
theorem D444_36 {g : im_g} : im_D g 444 36 (.iconst 0) 37 := im_D.of (by decide +kernel)
theorem D444_37 {g : im_g} : im_D g 444 37 (.putfield 1071) 40 := im_D.of (by decide +kernel)
theorem D444_40 {g : im_g} : im_D g 444 40 (.aload_n 0) 41 := im_D.of (by decide +kernel)
theorem D444_41 {g : im_g} : im_D g 444 41 (.iconst 0) 42 := im_D.of (by decide +kernel)
theorem D444_42 {g : im_g} : im_D g 444 42 (.putfield 1035) 45 := im_D.of (by decide +kernel)
theorem D444_45 {g : im_g} : im_D g 444 45 (.aload_n 0) 46 := im_D.of (by decide +kernel)
theorem D444_46 {g : im_g} : im_D g 444 46 (.iconst 0) 47 := im_D.of (by decide +kernel)
theorem D444_47 {g : im_g} : im_D g 444 47 (.putfield 1038) 50 := im_D.of (by decide +kernel)
theorem D444_50 {g : im_g} : im_D g 444 50 (.aload_n 0) 51 := im_D.of (by decide +kernel)
theorem D444_51 {g : im_g} : im_D g 444 51 (.iconst 0) 52 := im_D.of (by decide +kernel)
theorem D444_52 {g : im_g} : im_D g 444 52 (.putfield 1111) 55 := im_D.of (by decide +kernel)
theorem D444_55 {g : im_g} : im_D g 444 55 (.aload_n 0) 56 := im_D.of (by decide +kernel)
theorem D444_56 {g : im_g} : im_D g 444 56 (.iconst 0) 57 := im_D.of (by decide +kernel)
theorem D444_57 {g : im_g} : im_D g 444 57 (.putfield 632) 60 := im_D.of (by decide +kernel)
theorem D444_60 {g : im_g} : im_D g 444 60 (.aload_n 0) 61 := im_D.of (by decide +kernel)
theorem D444_61 {g : im_g} : im_D g 444 61 (.iconst 0) 62 := im_D.of (by decide +kernel)
theorem D444_62 {g : im_g} : im_D g 444 62 (.putfield 710) 65 := im_D.of (by decide +kernel)
theorem D444_65 {g : im_g} : im_D g 444 65 (.aload_n 0) 66 := im_D.of (by decide +kernel)
theorem D444_66 {g : im_g} : im_D g 444 66 (.iconst 0) 67 := im_D.of (by decide +kernel)
theorem D444_67 {g : im_g} : im_D g 444 67 (.putfield 617) 70 := im_D.of (by decide +kernel)
theorem D444_70 {g : im_g} : im_D g 444 70 (.aload_n 0) 71 := im_D.of (by decide +kernel)
theorem D444_71 {g : im_g} : im_D g 444 71 (.iconst 0) 72 := im_D.of (by decide +kernel)
theorem D444_72 {g : im_g} : im_D g 444 72 (.putfield 1140) 75 := im_D.of (by decide +kernel)
theorem D444_75 {g : im_g} : im_D g 444 75 (.aload_n 0) 76 := im_D.of (by decide +kernel)
theorem D444_76 {g : im_g} : im_D g 444 76 (.iconst 0) 77 := im_D.of (by decide +kernel)
theorem D444_77 {g : im_g} : im_D g 444 77 (.putfield 1154) 80 := im_D.of (by decide +kernel)
theorem D444_80 {g : im_g} : im_D g 444 80 (.iconst 0) 81 := im_D.of (by decide +kernel)
theorem D444_81 {g : im_g} : im_D g 444 81 (.istore_n 1) 82 := im_D.of (by decide +kernel)
theorem D444_82 {g : im_g} : im_D g 444 82 (.iload_n 1) 83 := im_D.of (by decide +kernel)
theorem D444_83 {g : im_g} : im_D g 444 83 (.bipush 16) 85 := im_D.of (by decide +kernel)
theorem D444_85 {g : im_g} : im_D g 444 85 (.if_icmp .ge 23) 88 := im_D.of (by decide +kernel)
theorem D444_88 {g : im_g} : im_D g 444 88 (.aload_n 0) 89 := im_D.of (by decide +kernel)
theorem D444_89 {g : im_g} : im_D g 444 89 (.getfield 106) 92 := im_D.of (by decide +kernel)
theorem D444_92 {g : im_g} : im_D g 444 92 (.iload_n 1) 93 := im_D.of (by decide +kernel)
theorem D444_93 {g : im_g} : im_D g 444 93 (.iconst 0) 94 := im_D.of (by decide +kernel)
theorem D444_94 {g : im_g} : im_D g 444 94 (.bastore) 95 := im_D.of (by decide +kernel)
theorem D444_95 {g : im_g} : im_D g 444 95 (.aload_n 0) 96 := im_D.of (by decide +kernel)
theorem D444_96 {g : im_g} : im_D g 444 96 (.getfield 136) 99 := im_D.of (by decide +kernel)
theorem D444_99 {g : im_g} : im_D g 444 99 (.iload_n 1) 100 := im_D.of (by decide +kernel)
theorem D444_100 {g : im_g} : im_D g 444 100 (.iconst 0) 101 := im_D.of (by decide +kernel)
theorem D444_101 {g : im_g} : im_D g 444 101 (.bastore) 102 := im_D.of (by decide +kernel)
theorem D444_102 {g : im_g} : im_D g 444 102 (.iinc 1 1) 105 := im_D.of (by decide +kernel)
theorem D444_105 {g : im_g} : im_D g 444 105 (.goto (-23)) 108 := im_D.of (by decide +kernel)
theorem D444_108 {g : im_g} : im_D g 444 108 (.iconst 1) 109 := im_D.of (by decide +kernel)
theorem D444_109 {g : im_g} : im_D g 444 109 (.istore_n 1) 110 := im_D.of (by decide +kernel)
theorem D444_110 {g : im_g} : im_D g 444 110 (.iload_n 1) 111 := im_D.of (by decide +kernel)
theorem D444_111 {g : im_g} : im_D g 444 111 (.ifCond .eq 11) 114 := im_D.of (by decide +kernel)
theorem D444_114 {g : im_g} : im_D g 444 114 (.aload_n 0) 115 := im_D.of (by decide +kernel)
theorem D444_115 {g : im_g} : im_D g 444 115 (.invokevirtual 1175) 118 := im_D.of (by decide +kernel)
theorem D444_118 {g : im_g} : im_D g 444 118 (.istore_n 1) 119 := im_D.of (by decide +kernel)
theorem D444_119 {g : im_g} : im_D g 444 119 (.goto (-9)) 122 := im_D.of (by decide +kernel)
theorem D444_122 {g : im_g} : im_D g 444 122 (.aload_n 0) 123 := im_D.of (by decide +kernel)
theorem D444_123 {g : im_g} : im_D g 444 123 (.iconst (-1)) 124 := im_D.of (by decide +kernel)
theorem D444_124 {g : im_g} : im_D g 444 124 (.putfield 403) 127 := im_D.of (by decide +kernel)
theorem D444_127 {g : im_g} : im_D g 444 127 (.aload_n 0) 128 := im_D.of (by decide +kernel)
theorem D444_128 {g : im_g} : im_D g 444 128 (.iconst (-1)) 129 := im_D.of (by decide +kernel)
theorem D444_129 {g : im_g} : im_D g 444 129 (.putfield 406) 132 := im_D.of (by decide +kernel)
theorem D444_132 {g : im_g} : im_D g 444 132 (.aload_n 0) 133 := im_D.of (by decide +kernel)
theorem D444_133 {g : im_g} : im_D g 444 133 (.getfield 1154) 136 := im_D.of (by decide +kernel)
theorem D444_136 {g : im_g} : im_D g 444 136 (.ireturn) 137 := im_D.of (by decide +kernel)
theorem D445_0 {g : im_g} : im_D g 445 0 (.aload_n 0) 1 := im_D.of (by decide +kernel)
theorem D445_1 {g : im_g} : im_D g 445 1 (.aload_n 0) 2 := im_D.of (by decide +kernel)
theorem D445_2 {g : im_g} : im_D g 445 2 (.getfield 1140) 5 := im_D.of (by decide +kernel)
theorem D445_5 {g : im_g} : im_D g 445 5 (.invokevirtual 1165) 8 := im_D.of (by decide +kernel)
theorem D445_8 {g : im_g} : im_D g 445 8 (.ifCond .ne 5) 11 := im_D.of (by decide +kernel)
theorem D445_11 {g : im_g} : im_D g 445 11 (.iconst 0) 12 := im_D.of (by decide +kernel)
theorem D445_12 {g : im_g} : im_D g 445 12 (.ireturn) 13 := im_D.of (by decide +kernel)
theorem D445_13 {g : im_g} : im_D g 445 13 (.aload_n 0) 14 := im_D.of (by decide +kernel)
theorem D445_14 {g : im_g} : im_D g 445 14 (.getfield 396) 17 := im_D.of (by decide +kernel)
theorem D445_17 {g : im_g} : im_D g 445 17 (.aload_n 0) 18 := im_D.of (by decide +kernel)
theorem D445_18 {g : im_g} : im_D g 445 18 (.getfield 1140) 21 := im_D.of (by decide +kernel)
theorem D445_21 {g : im_g} : im_D g 445 21 (.iaload) 22 := im_D.of (by decide +kernel)
theorem D445_22 {g : im_g} : im_D g 445 22 (.bipush 8) 24 := im_D.of (by decide +kernel)
theorem D445_24 {g : im_g} : im_D g 445 24 (.ishl) 25 := im_D.of (by decide +kernel)
theorem D445_25 {g : im_g} : im_D g 445 25 (.aload_n 0) 26 := im_D.of (by decide +kernel)
theorem D445_26 {g : im_g} : im_D g 445 26 (.getfield 396) 29 := im_D.of (by decide +kernel)
theorem D445_29 {g : im_g} : im_D g 445 29 (.aload_n 0) 30 := im_D.of (by decide +kernel)
theorem D445_30 {g : im_g} : im_D g 445 30 (.getfield 1140) 33 := im_D.of (by decide +kernel)
theorem D445_33 {g : im_g} : im_D g 445 33 (.iconst 1) 34 := im_D.of (by decide +kernel)
theorem D445_34 {g : im_g} : im_D g 445 34 (.iadd) 35 := im_D.of (by decide +kernel)
theorem D445_35 {g : im_g} : im_D g 445 35 (.iaload) 36 := im_D.of (by decide +kernel)
theorem D445_36 {g : im_g} : im_D g 445 36 (.ior) 37 := im_D.of (by decide +kernel)
theorem D445_37 {g : im_g} : im_D g 445 37 (.istore_n 1) 38 := im_D.of (by decide +kernel)
theorem D445_38 {g : im_g} : im_D g 445 38 (.aload_n 0) 39 := im_D.of (by decide +kernel)
theorem D445_39 {g : im_g} : im_D g 445 39 (.getfield 396) 42 := im_D.of (by decide +kernel)
theorem D445_42 {g : im_g} : im_D g 445 42 (.aload_n 0) 43 := im_D.of (by decide +kernel)
theorem D445_43 {g : im_g} : im_D g 445 43 (.getfield 1140) 46 := im_D.of (by decide +kernel)
theorem D445_46 {g : im_g} : im_D g 445 46 (.iconst 2) 47 := im_D.of (by decide +kernel)
theorem D445_47 {g : im_g} : im_D g 445 47 (.iadd) 48 := im_D.of (by decide +kernel)
theorem D445_48 {g : im_g} : im_D g 445 48 (.iaload) 49 := im_D.of (by decide +kernel)
theorem D445_49 {g : im_g} : im_D g 445 49 (.istore_n 2) 50 := im_D.of (by decide +kernel)
theorem D445_50 {g : im_g} : im_D g 445 50 (.iload_n 2) 51 := im_D.of (by decide +kernel)
theorem D445_51 {g : im_g} : im_D g 445 51 (.invokestatic 1159) 54 := im_D.of (by decide +kernel)
theorem D445_54 {g : im_g} : im_D g 445 54 (.istore_n 3) 55 := im_D.of (by decide +kernel)
theorem D445_55 {g : im_g} : im_D g 445 55 (.aload_n 0) 56 := im_D.of (by decide +kernel)
theorem D445_56 {g : im_g} : im_D g 445 56 (.iload_n 1) 57 := im_D.of (by decide +kernel)
theorem D445_57 {g : im_g} : im_D g 445 57 (.bipush 7) 59 := im_D.of (by decide +kernel)
theorem D445_59 {g : im_g} : im_D g 445 59 (.isub) 60 := im_D.of (by decide +kernel)
theorem D445_60 {g : im_g} : im_D g 445 60 (.bipush 8) 62 := im_D.of (by decide +kernel)
theorem D445_62 {g : im_g} : im_D g 445 62 (.iload_n 3) 63 := im_D.of (by decide +kernel)
theorem D445_63 {g : im_g} : im_D g 445 63 (.imul) 64 := im_D.of (by decide +kernel)
theorem D445_64 {g : im_g} : im_D g 445 64 (.isub) 65 := im_D.of (by decide +kernel)
theorem D445_65 {g : im_g} : im_D g 445 65 (.putfield 604) 68 := im_D.of (by decide +kernel)
theorem D445_68 {g : im_g} : im_D g 445 68 (.iconst 0) 69 := im_D.of (by decide +kernel)
theorem D445_69 {g : im_g} : im_D g 445 69 (.istore 4) 71 := im_D.of (by decide +kernel)
theorem D445_71 {g : im_g} : im_D g 445 71 (.iload 4) 73 := im_D.of (by decide +kernel)
theorem D445_73 {g : im_g} : im_D g 445 73 (.aload_n 0) 74 := im_D.of (by decide +kernel)
theorem D445_74 {g : im_g} : im_D g 445 74 (.getfield 604) 77 := im_D.of (by decide +kernel)
theorem D445_77 {g : im_g} : im_D g 445 77 (.if_icmp .ge 35) 80 := im_D.of (by decide +kernel)
theorem D445_80 {g : im_g} : im_D g 445 80 (.aload_n 0) 81 := im_D.of (by decide +kernel)
theorem D445_81 {g : im_g} : im_D g 445 81 (.getfield 30) 84 := im_D.of (by decide +kernel)
theorem D445_84 {g : im_g} : im_D g 445 84 (.iload 4) 86 := im_D.of (by decide +kernel)
theorem D445_86 {g : im_g} : im_D g 445 86 (.aload_n 0) 87 := im_D.of (by decide +kernel)
theorem D445_87 {g : im_g} : im_D g 445 87 (.getfield 396) 90 := im_D.of (by decide +kernel)
theorem D445_90 {g : im_g} : im_D g 445 90 (.aload_n 0) 91 := im_D.of (by decide +kernel)
theorem D445_91 {g : im_g} : im_D g 445 91 (.getfield 1140) 94 := im_D.of (by decide +kernel)
theorem D445_94 {g : im_g} : im_D g 445 94 (.iconst 3) 95 := im_D.of (by decide +kernel)
theorem D445_95 {g : im_g} : im_D g 445 95 (.iadd) 96 := im_D.of (by decide +kernel)
theorem D445_96 {g : im_g} : im_D g 445 96 (.bipush 8) 98 := im_D.of (by decide +kernel)
theorem D445_98 {g : im_g} : im_D g 445 98 (.iload_n 3) 99 := im_D.of (by decide +kernel)
theorem D445_99 {g : im_g} : im_D g 445 99 (.imul) 100 := im_D.of (by decide +kernel)
theorem D445_100 {g : im_g} : im_D g 445 100 (.iadd) 101 := im_D.of (by decide +kernel)
theorem D445_101 {g : im_g} : im_D g 445 101 (.iload 4) 103 := im_D.of (by decide +kernel)
theorem D445_103 {g : im_g} : im_D g 445 103 (.iadd) 104 := im_D.of (by decide +kernel)
theorem D445_104 {g : im_g} : im_D g 445 104 (.iaload) 105 := im_D.of (by decide +kernel)
theorem D445_105 {g : im_g} : im_D g 445 105 (.iastore) 106 := im_D.of (by decide +kernel)
theorem D445_106 {g : im_g} : im_D g 445 106 (.iinc 4 1) 109 := im_D.of (by decide +kernel)
theorem D445_109 {g : im_g} : im_D g 445 109 (.goto (-38)) 112 := im_D.of (by decide +kernel)
theorem D445_112 {g : im_g} : im_D g 445 112 (.iload_n 3) 113 := im_D.of (by decide +kernel)
theorem D445_113 {g : im_g} : im_D g 445 113 (.ifCond .le 16) 116 := im_D.of (by decide +kernel)
theorem D445_116 {g : im_g} : im_D g 445 116 (.aload_n 0) 117 := im_D.of (by decide +kernel)
theorem D445_117 {g : im_g} : im_D g 445 117 (.aload_n 0) 118 := im_D.of (by decide +kernel)
theorem D445_118 {g : im_g} : im_D g 445 118 (.getfield 1140) 121 := im_D.of (by decide +kernel)
theorem D445_121 {g : im_g} : im_D g 445 121 (.iconst 3) 122 := im_D.of (by decide +kernel)
theorem D445_122 {g : im_g} : im_D g 445 122 (.iadd) 123 := im_D.of (by decide +kernel)
theorem D445_123 {g : im_g} : im_D g 445 123 (.invokevirtual 1168) 126 := im_D.of (by decide +kernel)
theorem D445_126 {g : im_g} : im_D g 445 126 (.goto 4) 129 := im_D.of (by decide +kernel)
theorem D445_129 {g : im_g} : im_D g 445 129 (.lconst 0) 130 := im_D.of (by decide +kernel)
theorem D445_130 {g : im_g} : im_D g 445 130 (.lstore 4) 132 := im_D.of (by decide +kernel)
theorem D445_132 {g : im_g} : im_D g 445 132 (.iload_n 3) 133 := im_D.of (by decide +kernel)
theorem D445_133 {g : im_g} : im_D g 445 133 (.iconst 1) 134 := im_D.of (by decide +kernel)
theorem D445_134 {g : im_g} : im_D g 445 134 (.if_icmp .le 17) 137 := im_D.of (by decide +kernel)
theorem D445_137 {g : im_g} : im_D g 445 137 (.aload_n 0) 138 := im_D.of (by decide +kernel)
theorem D445_138 {g : im_g} : im_D g 445 138 (.aload_n 0) 139 := im_D.of (by decide +kernel)
theorem D445_139 {g : im_g} : im_D g 445 139 (.getfield 1140) 142 := im_D.of (by decide +kernel)
theorem D445_142 {g : im_g} : im_D g 445 142 (.bipush 11) 144 := im_D.of (by decide +kernel)
theorem D445_144 {g : im_g} : im_D g 445 144 (.iadd) 145 := im_D.of (by decide +kernel)
theorem D445_145 {g : im_g} : im_D g 445 145 (.invokevirtual 1168) 148 := im_D.of (by decide +kernel)
theorem D445_148 {g : im_g} : im_D g 445 148 (.goto 4) 151 := im_D.of (by decide +kernel)
theorem D445_151 {g : im_g} : im_D g 445 151 (.lconst 0) 152 := im_D.of (by decide +kernel)
theorem D445_152 {g : im_g} : im_D g 445 152 (.lstore 6) 154 := im_D.of (by decide +kernel)
theorem D445_154 {g : im_g} : im_D g 445 154 (.iload_n 3) 155 := im_D.of (by decide +kernel)
theorem D445_155 {g : im_g} : im_D g 445 155 (.iconst 2) 156 := im_D.of (by decide +kernel)
theorem D445_156 {g : im_g} : im_D g 445 156 (.if_icmp .le 17) 159 := im_D.of (by decide +kernel)
theorem D445_159 {g : im_g} : im_D g 445 159 (.aload_n 0) 160 := im_D.of (by decide +kernel)
theorem D445_160 {g : im_g} : im_D g 445 160 (.aload_n 0) 161 := im_D.of (by decide +kernel)
theorem D445_161 {g : im_g} : im_D g 445 161 (.getfield 1140) 164 := im_D.of (by decide +kernel)
theorem D445_164 {g : im_g} : im_D g 445 164 (.bipush 19) 166 := im_D.of (by decide +kernel)
theorem D445_166 {g : im_g} : im_D g 445 166 (.iadd) 167 := im_D.of (by decide +kernel)
theorem D445_167 {g : im_g} : im_D g 445 167 (.invokevirtual 1168) 170 := im_D.of (by decide +kernel)
theorem D445_170 {g : im_g} : im_D g 445 170 (.goto 4) 173 := im_D.of (by decide +kernel)
theorem D445_173 {g : im_g} : im_D g 445 173 (.lconst 0) 174 := im_D.of (by decide +kernel)
theorem D445_174 {g : im_g} : im_D g 445 174 (.lstore 8) 176 := im_D.of (by decide +kernel)
theorem D445_176 {g : im_g} : im_D g 445 176 (.aload_n 0) 177 := im_D.of (by decide +kernel)
theorem D445_177 {g : im_g} : im_D g 445 177 (.iload_n 2) 178 := im_D.of (by decide +kernel)
theorem D445_178 {g : im_g} : im_D g 445 178 (.lload 4) 180 := im_D.of (by decide +kernel)
theorem D445_180 {g : im_g} : im_D g 445 180 (.lload 6) 182 := im_D.of (by decide +kernel)
theorem D445_182 {g : im_g} : im_D g 445 182 (.lload 8) 184 := im_D.of (by decide +kernel)
theorem D445_184 {g : im_g} : im_D g 445 184 (.invokevirtual 1171) 187 := im_D.of (by decide +kernel)
theorem D445_187 {g : im_g} : im_D g 445 187 (.ifCond .ne 5) 190 := im_D.of (by decide +kernel)
theorem D445_190 {g : im_g} : im_D g 445 190 (.iconst 0) 191 := im_D.of (by decide +kernel)
theorem D445_191 {g : im_g} : im_D g 445 191 (.ireturn) 192 := im_D.of (by decide +kernel)
theorem D445_192 {g : im_g} : im_D g 445 192 (.aload_n 0) 193 := im_D.of (by decide +kernel)
theorem D445_193 {g : im_g} : im_D g 445 193 (.dup) 194 := im_D.of (by decide +kernel)
theorem D445_194 {g : im_g} : im_D g 445 194 (.getfield 1140) 197 := im_D.of (by decide +kernel)
theorem D445_197 {g : im_g} : im_D g 445 197 (.iload_n 1) 198 := im_D.of (by decide +kernel)
theorem D445_198 {g : im_g} : im_D g 445 198 (.iadd) 199 := im_D.of (by decide +kernel)
theorem D445_199 {g : im_g} : im_D g 445 199 (.putfield 1140) 202 := im_D.of (by decide +kernel)
theorem D445_202 {g : im_g} : im_D g 445 202 (.aload_n 0) 203 := im_D.of (by decide +kernel)
theorem D445_203 {g : im_g} : im_D g 445 203 (.dup) 204 := im_D.of (by decide +kernel)
theorem D445_204 {g : im_g} : im_D g 445 204 (.getfield 1154) 207 := im_D.of (by decide +kernel)
theorem D445_207 {g : im_g} : im_D g 445 207 (.iconst 1) 208 := im_D.of (by decide +kernel)
theorem D445_208 {g : im_g} : im_D g 445 208 (.iadd) 209 := im_D.of (by decide +kernel)
theorem D445_209 {g : im_g} : im_D g 445 209 (.putfield 1154) 212 := im_D.of (by decide +kernel)
theorem D445_212 {g : im_g} : im_D g 445 212 (.iconst 1) 213 := im_D.of (by decide +kernel)
theorem D445_213 {g : im_g} : im_D g 445 213 (.ireturn) 214 := im_D.of (by decide +kernel)
theorem D446_0 {g : im_g} : im_D g 446 0 (.iload_n 1) 1 := im_D.of (by decide +kernel)
theorem D446_1 {g : im_g} : im_D g 446 1 (.bipush 7) 3 := im_D.of (by decide +kernel)
theorem D446_3 {g : im_g} : im_D g 446 3 (.iadd) 4 := im_D.of (by decide +kernel)
theorem D446_4 {g : im_g} : im_D g 446 4 (.sipush 16384) 7 := im_D.of (by decide +kernel)
theorem D446_7 {g : im_g} : im_D g 446 7 (.if_icmp .le 5) 10 := im_D.of (by decide +kernel)
theorem D446_10 {g : im_g} : im_D g 446 10 (.iconst 0) 11 := im_D.of (by decide +kernel)
theorem D446_11 {g : im_g} : im_D g 446 11 (.ireturn) 12 := im_D.of (by decide +kernel)
theorem D446_12 {g : im_g} : im_D g 446 12 (.aload_n 0) 13 := im_D.of (by decide +kernel)
theorem D446_13 {g : im_g} : im_D g 446 13 (.getfield 396) 16 := im_D.of (by decide +kernel)
theorem D446_16 {g : im_g} : im_D g 446 16 (.iload_n 1) 17 := im_D.of (by decide +kernel)
theorem D446_17 {g : im_g} : im_D g 446 17 (.iaload) 18 := im_D.of (by decide +kernel)
theorem D446_18 {g : im_g} : im_D g 446 18 (.bipush 8) 20 := im_D.of (by decide +kernel)
theorem D446_20 {g : im_g} : im_D g 446 20 (.ishl) 21 := im_D.of (by decide +kernel)
theorem D446_21 {g : im_g} : im_D g 446 21 (.aload_n 0) 22 := im_D.of (by decide +kernel)
theorem D446_22 {g : im_g} : im_D g 446 22 (.getfield 396) 25 := im_D.of (by decide +kernel)
theorem D446_25 {g : im_g} : im_D g 446 25 (.iload_n 1) 26 := im_D.of (by decide +kernel)
theorem D446_26 {g : im_g} : im_D g 446 26 (.iconst 1) 27 := im_D.of (by decide +kernel)
theorem D446_27 {g : im_g} : im_D g 446 27 (.iadd) 28 := im_D.of (by decide +kernel)
theorem D446_28 {g : im_g} : im_D g 446 28 (.iaload) 29 := im_D.of (by decide +kernel)
theorem D446_29 {g : im_g} : im_D g 446 29 (.ior) 30 := im_D.of (by decide +kernel)
theorem D446_30 {g : im_g} : im_D g 446 30 (.istore_n 2) 31 := im_D.of (by decide +kernel)
theorem D446_31 {g : im_g} : im_D g 446 31 (.aload_n 0) 32 := im_D.of (by decide +kernel)
theorem D446_32 {g : im_g} : im_D g 446 32 (.getfield 396) 35 := im_D.of (by decide +kernel)
theorem D446_35 {g : im_g} : im_D g 446 35 (.iload_n 1) 36 := im_D.of (by decide +kernel)
theorem D446_36 {g : im_g} : im_D g 446 36 (.iconst 2) 37 := im_D.of (by decide +kernel)
theorem D446_37 {g : im_g} : im_D g 446 37 (.iadd) 38 := im_D.of (by decide +kernel)
theorem D446_38 {g : im_g} : im_D g 446 38 (.iaload) 39 := im_D.of (by decide +kernel)
theorem D446_39 {g : im_g} : im_D g 446 39 (.istore_n 3) 40 := im_D.of (by decide +kernel)
theorem D446_40 {g : im_g} : im_D g 446 40 (.iload_n 2) 41 := im_D.of (by decide +kernel)
theorem D446_41 {g : im_g} : im_D g 446 41 (.bipush 7) 43 := im_D.of (by decide +kernel)
theorem D446_43 {g : im_g} : im_D g 446 43 (.if_icmp .lt 24) 46 := im_D.of (by decide +kernel)
theorem D446_46 {g : im_g} : im_D g 446 46 (.iload_n 1) 47 := im_D.of (by decide +kernel)
theorem D446_47 {g : im_g} : im_D g 446 47 (.iload_n 2) 48 := im_D.of (by decide +kernel)
theorem D446_48 {g : im_g} : im_D g 446 48 (.iadd) 49 := im_D.of (by decide +kernel)
theorem D446_49 {g : im_g} : im_D g 446 49 (.sipush 16384) 52 := im_D.of (by decide +kernel)
theorem D446_52 {g : im_g} : im_D g 446 52 (.if_icmp .gt 15) 55 := im_D.of (by decide +kernel)
theorem D446_55 {g : im_g} : im_D g 446 55 (.iload_n 3) 56 := im_D.of (by decide +kernel)
theorem D446_56 {g : im_g} : im_D g 446 56 (.i2l) 57 := im_D.of (by decide +kernel)
theorem D446_57 {g : im_g} : im_D g 446 57 (.lconst 1) 58 := im_D.of (by decide +kernel)
theorem D446_58 {g : im_g} : im_D g 446 58 (.ldc2_w 759) 61 := im_D.of (by decide +kernel)
theorem D446_61 {g : im_g} : im_D g 446 61 (.invokestatic 428) 64 := im_D.of (by decide +kernel)
theorem D446_64 {g : im_g} : im_D g 446 64 (.ifCond .ne 5) 67 := im_D.of (by decide +kernel)
theorem D446_67 {g : im_g} : im_D g 446 67 (.iconst 0) 68 := im_D.of (by decide +kernel)
theorem D446_68 {g : im_g} : im_D g 446 68 (.ireturn) 69 := im_D.of (by decide +kernel)
theorem D446_69 {g : im_g} : im_D g 446 69 (.iload_n 3) 70 := im_D.of (by decide +kernel)
theorem D446_70 {g : im_g} : im_D g 446 70 (.iconst 1) 71 := im_D.of (by decide +kernel)
theorem D446_71 {g : im_g} : im_D g 446 71 (.if_icmp .eq 14) 74 := im_D.of (by decide +kernel)
theorem D446_74 {g : im_g} : im_D g 446 74 (.iload_n 3) 75 := im_D.of (by decide +kernel)
theorem D446_75 {g : im_g} : im_D g 446 75 (.iconst 5) 76 := im_D.of (by decide +kernel)
theorem D446_76 {g : im_g} : im_D g 446 76 (.if_icmp .lt 13) 79 := im_D.of (by decide +kernel)
theorem D446_79 {g : im_g} : im_D g 446 79 (.iload_n 3) 80 := im_D.of (by decide +kernel)
theorem D446_80 {g : im_g} : im_D g 446 80 (.bipush 7) 82 := im_D.of (by decide +kernel)
theorem D446_82 {g : im_g} : im_D g 446 82 (.if_icmp .gt 7) 85 := im_D.of (by decide +kernel)
theorem D446_85 {g : im_g} : im_D g 446 85 (.iconst 1) 86 := im_D.of (by decide +kernel)
theorem D446_86 {g : im_g} : im_D g 446 86 (.goto 4) 89 := im_D.of (by decide +kernel)
theorem D446_89 {g : im_g} : im_D g 446 89 (.iconst 0) 90 := im_D.of (by decide +kernel)
theorem D446_90 {g : im_g} : im_D g 446 90 (.istore 4) 92 := im_D.of (by decide +kernel)
theorem D446_92 {g : im_g} : im_D g 446 92 (.bipush 7) 94 := im_D.of (by decide +kernel)
theorem D446_94 {g : im_g} : im_D g 446 94 (.bipush 8) 96 := im_D.of (by decide +kernel)
theorem D446_96 {g : im_g} : im_D g 446 96 (.iload_n 3) 97 := im_D.of (by decide +kernel)
theorem D446_97 {g : im_g} : im_D g 446 97 (.invokestatic 1159) 100 := im_D.of (by decide +kernel)
theorem D446_100 {g : im_g} : im_D g 446 100 (.imul) 101 := im_D.of (by decide +kernel)
theorem D446_101 {g : im_g} : im_D g 446 101 (.iadd) 102 := im_D.of (by decide +kernel)
theorem D446_102 {g : im_g} : im_D g 446 102 (.istore 5) 104 := im_D.of (by decide +kernel)
theorem D446_104 {g : im_g} : im_D g 446 104 (.iload_n 2) 105 := im_D.of (by decide +kernel)
theorem D446_105 {g : im_g} : im_D g 446 105 (.iload 5) 107 := im_D.of (by decide +kernel)
theorem D446_107 {g : im_g} : im_D g 446 107 (.if_icmp .lt 14) 110 := im_D.of (by decide +kernel)
theorem D446_110 {g : im_g} : im_D g 446 110 (.iload 4) 112 := im_D.of (by decide +kernel)
theorem D446_112 {g : im_g} : im_D g 446 112 (.ifCond .ne 11) 115 := im_D.of (by decide +kernel)
theorem D446_115 {g : im_g} : im_D g 446 115 (.iload_n 2) 116 := im_D.of (by decide +kernel)
theorem D446_116 {g : im_g} : im_D g 446 116 (.iload 5) 118 := im_D.of (by decide +kernel)
theorem D446_118 {g : im_g} : im_D g 446 118 (.if_icmp .eq 5) 121 := im_D.of (by decide +kernel)
theorem D446_121 {g : im_g} : im_D g 446 121 (.iconst 0) 122 := im_D.of (by decide +kernel)
theorem D446_122 {g : im_g} : im_D g 446 122 (.ireturn) 123 := im_D.of (by decide +kernel)
theorem D446_123 {g : im_g} : im_D g 446 123 (.aload_n 0) 124 := im_D.of (by decide +kernel)
theorem D446_124 {g : im_g} : im_D g 446 124 (.ldc_w 1143) 127 := im_D.of (by decide +kernel)
theorem D446_127 {g : im_g} : im_D g 446 127 (.putfield 1133) 130 := im_D.of (by decide +kernel)
theorem D446_130 {g : im_g} : im_D g 446 130 (.iconst 0) 131 := im_D.of (by decide +kernel)
theorem D446_131 {g : im_g} : im_D g 446 131 (.istore 6) 133 := im_D.of (by decide +kernel)
theorem D446_133 {g : im_g} : im_D g 446 133 (.iload 6) 135 := im_D.of (by decide +kernel)
theorem D446_135 {g : im_g} : im_D g 446 135 (.iload_n 2) 136 := im_D.of (by decide +kernel)
theorem D446_136 {g : im_g} : im_D g 446 136 (.iconst 4) 137 := im_D.of (by decide +kernel)
theorem D446_137 {g : im_g} : im_D g 446 137 (.isub) 138 := im_D.of (by decide +kernel)
theorem D446_138 {g : im_g} : im_D g 446 138 (.if_icmp .ge 22) 141 := im_D.of (by decide +kernel)
theorem D446_141 {g : im_g} : im_D g 446 141 (.aload_n 0) 142 := im_D.of (by decide +kernel)
theorem D446_142 {g : im_g} : im_D g 446 142 (.aload_n 0) 143 := im_D.of (by decide +kernel)
theorem D446_143 {g : im_g} : im_D g 446 143 (.getfield 396) 146 := im_D.of (by decide +kernel)
theorem D446_146 {g : im_g} : im_D g 446 146 (.iload_n 1) 147 := im_D.of (by decide +kernel)
theorem D446_147 {g : im_g} : im_D g 446 147 (.iload 6) 149 := im_D.of (by decide +kernel)
theorem D446_149 {g : im_g} : im_D g 446 149 (.iadd) 150 := im_D.of (by decide +kernel)
theorem D446_150 {g : im_g} : im_D g 446 150 (.iaload) 151 := im_D.of (by decide +kernel)
theorem D446_151 {g : im_g} : im_D g 446 151 (.invokevirtual 1137) 154 := im_D.of (by decide +kernel)
theorem D446_154 {g : im_g} : im_D g 446 154 (.iinc 6 1) 157 := im_D.of (by decide +kernel)
theorem D446_157 {g : im_g} : im_D g 446 157 (.goto (-24)) 160 := im_D.of (by decide +kernel)
theorem D446_160 {g : im_g} : im_D g 446 160 (.aload_n 0) 161 := im_D.of (by decide +kernel)
theorem D446_161 {g : im_g} : im_D g 446 161 (.iload_n 1) 162 := im_D.of (by decide +kernel)
theorem D446_162 {g : im_g} : im_D g 446 162 (.invokevirtual 1151) 165 := im_D.of (by decide +kernel)
theorem D446_165 {g : im_g} : im_D g 446 165 (.iconst 1) 166 := im_D.of (by decide +kernel)
theorem D446_166 {g : im_g} : im_D g 446 166 (.istore 6) 168 := im_D.of (by decide +kernel)
theorem D446_168 {g : im_g} : im_D g 446 168 (.iconst 0) 169 := im_D.of (by decide +kernel)
theorem D446_169 {g : im_g} : im_D g 446 169 (.istore 7) 171 := im_D.of (by decide +kernel)
theorem D446_171 {g : im_g} : im_D g 446 171 (.iload 7) 173 := im_D.of (by decide +kernel)
theorem D446_173 {g : im_g} : im_D g 446 173 (.iconst 4) 174 := im_D.of (by decide +kernel)
theorem D446_174 {g : im_g} : im_D g 446 174 (.if_icmp .ge 54) 177 := im_D.of (by decide +kernel)
theorem D446_177 {g : im_g} : im_D g 446 177 (.iload 6) 179 := im_D.of (by decide +kernel)
theorem D446_179 {g : im_g} : im_D g 446 179 (.ifCond .eq 40) 182 := im_D.of (by decide +kernel)
theorem D446_182 {g : im_g} : im_D g 446 182 (.aload_n 0) 183 := im_D.of (by decide +kernel)
theorem D446_183 {g : im_g} : im_D g 446 183 (.getfield 396) 186 := im_D.of (by decide +kernel)
theorem D446_186 {g : im_g} : im_D g 446 186 (.iload_n 1) 187 := im_D.of (by decide +kernel)
theorem D446_187 {g : im_g} : im_D g 446 187 (.iload_n 2) 188 := im_D.of (by decide +kernel)
theorem D446_188 {g : im_g} : im_D g 446 188 (.iadd) 189 := im_D.of (by decide +kernel)
theorem D446_189 {g : im_g} : im_D g 446 189 (.iconst 4) 190 := im_D.of (by decide +kernel)
theorem D446_190 {g : im_g} : im_D g 446 190 (.isub) 191 := im_D.of (by decide +kernel)
theorem D446_191 {g : im_g} : im_D g 446 191 (.iload 7) 193 := im_D.of (by decide +kernel)
theorem D446_193 {g : im_g} : im_D g 446 193 (.iadd) 194 := im_D.of (by decide +kernel)
theorem D446_194 {g : im_g} : im_D g 446 194 (.iaload) 195 := im_D.of (by decide +kernel)
theorem D446_195 {g : im_g} : im_D g 446 195 (.aload_n 0) 196 := im_D.of (by decide +kernel)
theorem D446_196 {g : im_g} : im_D g 446 196 (.getfield 1133) 199 := im_D.of (by decide +kernel)
theorem D446_199 {g : im_g} : im_D g 446 199 (.bipush 24) 201 := im_D.of (by decide +kernel)
theorem D446_201 {g : im_g} : im_D g 446 201 (.bipush 8) 203 := im_D.of (by decide +kernel)
theorem D446_203 {g : im_g} : im_D g 446 203 (.iload 7) 205 := im_D.of (by decide +kernel)
theorem D446_205 {g : im_g} : im_D g 446 205 (.imul) 206 := im_D.of (by decide +kernel)
theorem D446_206 {g : im_g} : im_D g 446 206 (.isub) 207 := im_D.of (by decide +kernel)
theorem D446_207 {g : im_g} : im_D g 446 207 (.ishr) 208 := im_D.of (by decide +kernel)
theorem D446_208 {g : im_g} : im_D g 446 208 (.sipush 255) 211 := im_D.of (by decide +kernel)
theorem D446_211 {g : im_g} : im_D g 446 211 (.iand) 212 := im_D.of (by decide +kernel)
theorem D446_212 {g : im_g} : im_D g 446 212 (.if_icmp .ne 7) 215 := im_D.of (by decide +kernel)
theorem D446_215 {g : im_g} : im_D g 446 215 (.iconst 1) 216 := im_D.of (by decide +kernel)
theorem D446_216 {g : im_g} : im_D g 446 216 (.goto 4) 219 := im_D.of (by decide +kernel)
theorem D446_219 {g : im_g} : im_D g 446 219 (.iconst 0) 220 := im_D.of (by decide +kernel)
theorem D446_220 {g : im_g} : im_D g 446 220 (.istore 6) 222 := im_D.of (by decide +kernel)
theorem D446_222 {g : im_g} : im_D g 446 222 (.iinc 7 1) 225 := im_D.of (by decide +kernel)
theorem D446_225 {g : im_g} : im_D g 446 225 (.goto (-54)) 228 := im_D.of (by decide +kernel)
theorem D446_228 {g : im_g} : im_D g 446 228 (.iload 6) 230 := im_D.of (by decide +kernel)
theorem D446_230 {g : im_g} : im_D g 446 230 (.ireturn) 231 := im_D.of (by decide +kernel)
theorem D447_0 {g : im_g} : im_D g 447 0 (.iload_n 0) 1 := im_D.of (by decide +kernel)
theorem D447_1 {g : im_g} : im_D g 447 1 (.iconst 3) 2 := im_D.of (by decide +kernel)
theorem D447_2 {g : im_g} : im_D g 447 2 (.if_icmp .eq 9) 5 := im_D.of (by decide +kernel)
theorem D447_5 {g : im_g} : im_D g 447 5 (.iload_n 0) 6 := im_D.of (by decide +kernel)
theorem D447_6 {g : im_g} : im_D g 447 6 (.bipush 6) 8 := im_D.of (by decide +kernel)
theorem D447_8 {g : im_g} : im_D g 447 8 (.if_icmp .ne 7) 11 := im_D.of (by decide +kernel)
theorem D447_11 {g : im_g} : im_D g 447 11 (.iconst 3) 12 := im_D.of (by decide +kernel)
theorem D447_12 {g : im_g} : im_D g 447 12 (.goto 23) 15 := im_D.of (by decide +kernel)
theorem D447_15 {g : im_g} : im_D g 447 15 (.iload_n 0) 16 := im_D.of (by decide +kernel)
theorem D447_16 {g : im_g} : im_D g 447 16 (.iconst 5) 17 := im_D.of (by decide +kernel)
theorem D447_17 {g : im_g} : im_D g 447 17 (.if_icmp .ne 7) 20 := im_D.of (by decide +kernel)
theorem D447_20 {g : im_g} : im_D g 447 20 (.iconst 2) 21 := im_D.of (by decide +kernel)
theorem D447_21 {g : im_g} : im_D g 447 21 (.goto 14) 24 := im_D.of (by decide +kernel)
theorem D447_24 {g : im_g} : im_D g 447 24 (.iload_n 0) 25 := im_D.of (by decide +kernel)
theorem D447_25 {g : im_g} : im_D g 447 25 (.bipush 8) 27 := im_D.of (by decide +kernel)
theorem D447_27 {g : im_g} : im_D g 447 27 (.if_icmp .ne 7) 30 := im_D.of (by decide +kernel)
theorem D447_30 {g : im_g} : im_D g 447 30 (.iconst 0) 31 := im_D.of (by decide +kernel)
theorem D447_31 {g : im_g} : im_D g 447 31 (.goto 4) 34 := im_D.of (by decide +kernel)
theorem D447_34 {g : im_g} : im_D g 447 34 (.iconst 1) 35 := im_D.of (by decide +kernel)
theorem D447_35 {g : im_g} : im_D g 447 35 (.ireturn) 36 := im_D.of (by decide +kernel)
theorem D448_0 {g : im_g} : im_D g 448 0 (.lconst 0) 1 := im_D.of (by decide +kernel)
theorem D448_1 {g : im_g} : im_D g 448 1 (.lstore_n 2) 2 := im_D.of (by decide +kernel)
theorem D448_2 {g : im_g} : im_D g 448 2 (.iconst 0) 3 := im_D.of (by decide +kernel)
theorem D448_3 {g : im_g} : im_D g 448 3 (.istore 4) 5 := im_D.of (by decide +kernel)
theorem D448_5 {g : im_g} : im_D g 448 5 (.iload 4) 7 := im_D.of (by decide +kernel)
theorem D448_7 {g : im_g} : im_D g 448 7 (.bipush 8) 9 := im_D.of (by decide +kernel)
theorem D448_9 {g : im_g} : im_D g 448 9 (.if_icmp .ge 25) 12 := im_D.of (by decide +kernel)
theorem D448_12 {g : im_g} : im_D g 448 12 (.lload_n 2) 13 := im_D.of (by decide +kernel)
theorem D448_13 {g : im_g} : im_D g 448 13 (.bipush 8) 15 := im_D.of (by decide +kernel)
theorem D448_15 {g : im_g} : im_D g 448 15 (.lshl) 16 := im_D.of (by decide +kernel)
theorem D448_16 {g : im_g} : im_D g 448 16 (.aload_n 0) 17 := im_D.of (by decide +kernel)
theorem D448_17 {g : im_g} : im_D g 448 17 (.getfield 396) 20 := im_D.of (by decide +kernel)
theorem D448_20 {g : im_g} : im_D g 448 20 (.iload_n 1) 21 := im_D.of (by decide +kernel)
theorem D448_21 {g : im_g} : im_D g 448 21 (.iload 4) 23 := im_D.of (by decide +kernel)
theorem D448_23 {g : im_g} : im_D g 448 23 (.iadd) 24 := im_D.of (by decide +kernel)
theorem D448_24 {g : im_g} : im_D g 448 24 (.iaload) 25 := im_D.of (by decide +kernel)
theorem D448_25 {g : im_g} : im_D g 448 25 (.i2l) 26 := im_D.of (by decide +kernel)
theorem D448_26 {g : im_g} : im_D g 448 26 (.lor) 27 := im_D.of (by decide +kernel)
theorem D448_27 {g : im_g} : im_D g 448 27 (.lstore_n 2) 28 := im_D.of (by decide +kernel)
theorem D448_28 {g : im_g} : im_D g 448 28 (.iinc 4 1) 31 := im_D.of (by decide +kernel)
theorem D448_31 {g : im_g} : im_D g 448 31 (.goto (-26)) 34 := im_D.of (by decide +kernel)
theorem D448_34 {g : im_g} : im_D g 448 34 (.lload_n 2) 35 := im_D.of (by decide +kernel)
theorem D448_35 {g : im_g} : im_D g 448 35 (.lreturn) 36 := im_D.of (by decide +kernel)
set_option maxRecDepth 20000 in
set_option maxHeartbeats 4000000 in
theorem b_tellTry_0 {g : im_g} {d : Nat} {e : im_E} {M : im_M} {K : im_K} {p1 : Int} (hd : 1 ≤ d) (hP : (0 ≤ p1 ∧ p1 < 402) ∧ (((((M 7074 p1) = 0 → im_T g (d - 1) 320 0 [some (.ref 6952), some (vL 2002872692), none] [] e M (im_r0 (fun  e_ M58 => e = e_ ∧ im_T g (d - 1) 322 0 [some (.ref 6952), some (vI 32)] [] e M58 (im_r0 (fun  e_ M59 => e = e_ ∧ im_T g (d - 1) 327 0 [some (.ref 6952), some (vL (M59 7079 p1)), none, none, none, none, none] [] e M59 (im_r0 (fun  e_ M61 => e = e_ ∧ K (.inl none) e M61))))))))) ∧ (∀ x8 : Int, (((¬ (M 7074 p1) = 0) ∧ (¬ (M 7074 p1) = 8) ∧ (¬ (M 7074 p1) = 9) ∧ x8 = 121424973489785) ∨ ((¬ (M 7074 p1) = 0) ∧ (¬ (M 7074 p1) = 8) ∧ ((M 7074 p1) = 9) ∧ x8 = 109300196926309) ∨ ((¬ (M 7074 p1) = 0) ∧ ((M 7074 p1) = 8) ∧ x8 = 28259031251642740)) → im_T g (d - 1) 320 0 [some (.ref 6952), some (vL x8), none] [] e M (im_r0 (fun  e_ M12 => e = e_ ∧ (((M12 7074 p1) = 10 → im_T g (d - 1) 320 0 [some (.ref 6952), some (vL 24948), none] [] e M12 (im_r0 (fun  e_ M16 => e = e_ ∧ im_T g (d - 1) 322 0 [some (.ref 6952), some (vI 32)] [] e M16 (im_r0 (fun  e_ M17 => e = e_ ∧ im_T g (d - 1) 327 0 [some (.ref 6952), some (vL (M17 7079 p1)), none, none, none, none, none] [] e M17 (im_r0 (fun  e_ M19 => e = e_ ∧ K (.inl none) e M19))))))) ∧ (¬ (M12 7074 p1) = 10 → im_T g (d - 1) 320 0 [some (.ref 6952), some (vL (M12 7075 p1)), none] [] e M12 (im_r0 (fun  e_ M23 => e = e_ ∧ im_T g (d - 1) 320 0 [some (.ref 6952), some (vL (M23 7076 p1)), none] [] e M23 (im_r0 (fun  e_ M25 => e = e_ ∧ ((¬ (M25 7074 p1) = 8 → im_T g (d - 1) 322 0 [some (.ref 6952), some (vI 32)] [] e M25 (im_r0 (fun  e_ M29 => e = e_ ∧ im_T g (d - 1) 324 0 [some (.ref 6952), some (vI (M29 7078 p1)), none] [] e M29 (im_r0 (fun  e_ M31 => e = e_ ∧ im_T g (d - 1) 320 0 [some (.ref 6952), some (vL 24948), none] [] e M31 (im_r0 (fun  e_ M32 => e = e_ ∧ im_T g (d - 1) 322 0 [some (.ref 6952), some (vI 32)] [] e M32 (im_r0 (fun  e_ M33 => e = e_ ∧ im_T g (d - 1) 327 0 [some (.ref 6952), some (vL (M33 7079 p1)), none, none, none, none, none] [] e M33 (im_r0 (fun  e_ M35 => e = e_ ∧ K (.inl none) e M35))))))))))) ∧ ((M25 7074 p1) = 8 → im_T g (d - 1) 320 0 [some (.ref 6952), some (vL (M25 7077 p1)), none] [] e M25 (im_r0 (fun  e_ M41 => e = e_ ∧ im_T g (d - 1) 322 0 [some (.ref 6952), some (vI 32)] [] e M41 (im_r0 (fun  e_ M42 => e = e_ ∧ im_T g (d - 1) 324 0 [some (.ref 6952), some (vI (M42 7078 p1)), none] [] e M42 (im_r0 (fun  e_ M44 => e = e_ ∧ im_T g (d - 1) 320 0 [some (.ref 6952), some (vL 24948), none] [] e M44 (im_r0 (fun  e_ M45 => e = e_ ∧ im_T g (d - 1) 322 0 [some (.ref 6952), some (vI 32)] [] e M45 (im_r0 (fun  e_ M46 => e = e_ ∧ im_T g (d - 1) 327 0 [some (.ref 6952), some (vL (M46 7079 p1)), none, none, none, none, none] [] e M46 (im_r0 (fun  e_ M48 => e = e_ ∧ K (.inl none) e M48))))))))))))))))))))))))) : im_T g d 438 0 [some (.ref 6952), some (vI p1)] [] e M K := by
  refine im_ld (q := 1) (i := 0) D438_0 rfl rfl rfl ?_
  refine im_gfR (q := 4) (b := 7074) D438_1 (im_fl cn_438 fl_12_378) sf_6952 rfl rfl tR_12_168 rf_6952_168 ?_
  refine im_ld (q := 5) (i := 1) D438_4 rfl rfl rfl ?_
  obtain ⟨hg1, hP⟩ := hP
  refine im_rng (j := p1) sf_7074 hg1.1 hg1.2 (fun hr2 => ?_)
  refine im_iald (q := 6) D438_5 sf_7074 hg1.1 hg1.2 (by decide) rfl ?_
  obtain ⟨hP, hJ9⟩ := hP
  have kJ10 : ∀ x8 : Int, (((¬ (M 7074 p1) = 0) ∧ (¬ (M 7074 p1) = 8) ∧ (¬ (M 7074 p1) = 9) ∧ x8 = 121424973489785) ∨ ((¬ (M 7074 p1) = 0) ∧ (¬ (M 7074 p1) = 8) ∧ ((M 7074 p1) = 9) ∧ x8 = 109300196926309) ∨ ((¬ (M 7074 p1) = 0) ∧ ((M 7074 p1) = 8) ∧ x8 = 28259031251642740)) → im_T g d 438 57 [some (.ref 6952), some (vI p1)] [vL x8, .ref 6952] e M K := by
    intro x8 hx11
    have hP := hJ9 x8 hx11
    refine im_callV (q := 60) (kd := 1) (y := 320) (n := 1) (ci := 12) (a := 6952) (vs := [.ref 6952, vL x8]) (r := []) (L2 := [some (.ref 6952), some (vL x8), none]) D438_57 (im_cal cn_438 cl_12_750) (Or.inl rfl) rfl sf_6952 rfl rfl rfl rfl hd ⟨rfl, rfl, trivial⟩ ?_
    refine hP.mono ?_
    rintro _ e57 M12 ⟨rfl, rfl, hP⟩
    refine im_bkN ?_
    refine im_ld (q := 61) (i := 0) D438_60 rfl rfl rfl ?_
    refine im_gfR (q := 64) (b := 7074) D438_61 (im_fl cn_438 fl_12_378) sf_6952 rfl rfl tR_12_168 rf_6952_168 ?_
    refine im_ld (q := 65) (i := 1) D438_64 rfl rfl rfl ?_
    refine im_rng (j := p1) sf_7074 hg1.1 hg1.2 (fun hr13 => ?_)
    refine im_iald (q := 66) D438_65 sf_7074 hg1.1 hg1.2 (by decide) rfl ?_
    refine im_bipush (q := 68) D438_66 rfl ?_
    refine im_icmp (q := 71) (t := 128) D438_68 rfl hr13 (by decide) (fun hc14 => ?_) (fun hc14 => ?_)
    · replace hP := hP.1 hc14
      refine im_ld (q := 129) (i := 0) D438_128 rfl rfl rfl ?_
      refine im_ldc2 (q := 132) (n := 24948) D438_129 rfl ?_
      refine im_callV (q := 135) (kd := 1) (y := 320) (n := 1) (ci := 12) (a := 6952) (vs := [.ref 6952, vL 24948]) (r := []) (L2 := [some (.ref 6952), some (vL 24948), none]) D438_132 (im_cal cn_438 cl_12_750) (Or.inl rfl) rfl sf_6952 rfl rfl rfl rfl hd ⟨rfl, rfl, trivial⟩ ?_
      refine hP.mono ?_
      rintro _ e22 M16 ⟨rfl, rfl, hP⟩
      refine im_bkN ?_
      refine im_ld (q := 136) (i := 0) D438_135 rfl rfl rfl ?_
      refine im_bipush (q := 138) D438_136 rfl ?_
      refine im_callV (q := 141) (kd := 1) (y := 322) (n := 1) (ci := 12) (a := 6952) (vs := [.ref 6952, vI 32]) (r := []) (L2 := [some (.ref 6952), some (vI 32)]) D438_138 (im_cal cn_438 cl_12_432) (Or.inl rfl) rfl sf_6952 rfl rfl rfl rfl hd ⟨rfl, rfl, trivial⟩ ?_
      refine hP.mono ?_
      rintro _ e21 M17 ⟨rfl, rfl, hP⟩
      refine im_bkN ?_
      refine im_ld (q := 142) (i := 0) D438_141 rfl rfl rfl ?_
      refine im_ld (q := 143) (i := 0) D438_142 rfl rfl rfl ?_
      refine im_gfR (q := 146) (b := 7079) D438_143 (im_fl cn_438 fl_12_393) sf_6952 rfl rfl tR_12_173 rf_6952_173 ?_
      refine im_ld (q := 147) (i := 1) D438_146 rfl rfl rfl ?_
      refine im_rng (j := p1) sf_7079 hg1.1 hg1.2 (fun hr18 => ?_)
      refine im_lald (q := 148) D438_147 sf_7079 hg1.1 hg1.2 (by decide) rfl ?_
      refine im_callV (q := 151) (kd := 1) (y := 327) (n := 1) (ci := 12) (a := 6952) (vs := [.ref 6952, vL (M17 7079 p1)]) (r := []) (L2 := [some (.ref 6952), some (vL (M17 7079 p1)), none, none, none, none, none]) D438_148 (im_cal cn_438 cl_12_773) (Or.inl rfl) rfl sf_6952 rfl rfl rfl rfl hd ⟨rfl, rfl, trivial⟩ ?_
      refine hP.mono ?_
      rintro _ e20 M19 ⟨rfl, rfl, hP⟩
      refine im_bkN ?_
      exact im_vret (q := 152) D438_151 rfl hP
    · replace hP := hP.2 hc14
      refine im_ld (q := 72) (i := 0) D438_71 rfl rfl rfl ?_
      refine im_ld (q := 73) (i := 0) D438_72 rfl rfl rfl ?_
      refine im_gfR (q := 76) (b := 7075) D438_73 (im_fl cn_438 fl_12_381) sf_6952 rfl rfl tR_12_169 rf_6952_169 ?_
      refine im_ld (q := 77) (i := 1) D438_76 rfl rfl rfl ?_
      refine im_rng (j := p1) sf_7075 hg1.1 hg1.2 (fun hr15 => ?_)
      refine im_lald (q := 78) D438_77 sf_7075 hg1.1 hg1.2 (by decide) rfl ?_
      refine im_callV (q := 81) (kd := 1) (y := 320) (n := 1) (ci := 12) (a := 6952) (vs := [.ref 6952, vL (M12 7075 p1)]) (r := []) (L2 := [some (.ref 6952), some (vL (M12 7075 p1)), none]) D438_78 (im_cal cn_438 cl_12_750) (Or.inl rfl) rfl sf_6952 rfl rfl rfl rfl hd ⟨rfl, rfl, trivial⟩ ?_
      refine hP.mono ?_
      rintro _ e56 M23 ⟨rfl, rfl, hP⟩
      refine im_bkN ?_
      refine im_ld (q := 82) (i := 0) D438_81 rfl rfl rfl ?_
      refine im_ld (q := 83) (i := 0) D438_82 rfl rfl rfl ?_
      refine im_gfR (q := 86) (b := 7076) D438_83 (im_fl cn_438 fl_12_384) sf_6952 rfl rfl tR_12_170 rf_6952_170 ?_
      refine im_ld (q := 87) (i := 1) D438_86 rfl rfl rfl ?_
      refine im_rng (j := p1) sf_7076 hg1.1 hg1.2 (fun hr24 => ?_)
      refine im_lald (q := 88) D438_87 sf_7076 hg1.1 hg1.2 (by decide) rfl ?_
      refine im_callV (q := 91) (kd := 1) (y := 320) (n := 1) (ci := 12) (a := 6952) (vs := [.ref 6952, vL (M23 7076 p1)]) (r := []) (L2 := [some (.ref 6952), some (vL (M23 7076 p1)), none]) D438_88 (im_cal cn_438 cl_12_750) (Or.inl rfl) rfl sf_6952 rfl rfl rfl rfl hd ⟨rfl, rfl, trivial⟩ ?_
      refine hP.mono ?_
      rintro _ e55 M25 ⟨rfl, rfl, hP⟩
      refine im_bkN ?_
      refine im_ld (q := 92) (i := 0) D438_91 rfl rfl rfl ?_
      refine im_gfR (q := 95) (b := 7074) D438_92 (im_fl cn_438 fl_12_378) sf_6952 rfl rfl tR_12_168 rf_6952_168 ?_
      refine im_ld (q := 96) (i := 1) D438_95 rfl rfl rfl ?_
      refine im_rng (j := p1) sf_7074 hg1.1 hg1.2 (fun hr26 => ?_)
      refine im_iald (q := 97) D438_96 sf_7074 hg1.1 hg1.2 (by decide) rfl ?_
      refine im_bipush (q := 99) D438_97 rfl ?_
      refine im_icmp (q := 102) (t := 112) D438_99 rfl hr26 (by decide) (fun hc27 => ?_) (fun hc27 => ?_)
      · replace hP := hP.1 hc27
        refine im_ld (q := 113) (i := 0) D438_112 rfl rfl rfl ?_
        refine im_bipush (q := 115) D438_113 rfl ?_
        refine im_callV (q := 118) (kd := 1) (y := 322) (n := 1) (ci := 12) (a := 6952) (vs := [.ref 6952, vI 32]) (r := []) (L2 := [some (.ref 6952), some (vI 32)]) D438_115 (im_cal cn_438 cl_12_432) (Or.inl rfl) rfl sf_6952 rfl rfl rfl rfl hd ⟨rfl, rfl, trivial⟩ ?_
        refine hP.mono ?_
        rintro _ e40 M29 ⟨rfl, rfl, hP⟩
        refine im_bkN ?_
        refine im_ld (q := 119) (i := 0) D438_118 rfl rfl rfl ?_
        refine im_ld (q := 120) (i := 0) D438_119 rfl rfl rfl ?_
        refine im_gfR (q := 123) (b := 7078) D438_120 (im_fl cn_438 fl_12_390) sf_6952 rfl rfl tR_12_172 rf_6952_172 ?_
        refine im_ld (q := 124) (i := 1) D438_123 rfl rfl rfl ?_
        refine im_rng (j := p1) sf_7078 hg1.1 hg1.2 (fun hr30 => ?_)
        refine im_iald (q := 125) D438_124 sf_7078 hg1.1 hg1.2 (by decide) rfl ?_
        refine im_callV (q := 128) (kd := 1) (y := 324) (n := 1) (ci := 12) (a := 6952) (vs := [.ref 6952, vI (M29 7078 p1)]) (r := []) (L2 := [some (.ref 6952), some (vI (M29 7078 p1)), none]) D438_125 (im_cal cn_438 cl_12_756) (Or.inl rfl) rfl sf_6952 rfl rfl rfl rfl hd ⟨rfl, rfl, trivial⟩ ?_
        refine hP.mono ?_
        rintro _ e39 M31 ⟨rfl, rfl, hP⟩
        refine im_bkN ?_
        refine im_ld (q := 129) (i := 0) D438_128 rfl rfl rfl ?_
        refine im_ldc2 (q := 132) (n := 24948) D438_129 rfl ?_
        refine im_callV (q := 135) (kd := 1) (y := 320) (n := 1) (ci := 12) (a := 6952) (vs := [.ref 6952, vL 24948]) (r := []) (L2 := [some (.ref 6952), some (vL 24948), none]) D438_132 (im_cal cn_438 cl_12_750) (Or.inl rfl) rfl sf_6952 rfl rfl rfl rfl hd ⟨rfl, rfl, trivial⟩ ?_
        refine hP.mono ?_
        rintro _ e38 M32 ⟨rfl, rfl, hP⟩
        refine im_bkN ?_
        refine im_ld (q := 136) (i := 0) D438_135 rfl rfl rfl ?_
        refine im_bipush (q := 138) D438_136 rfl ?_
        refine im_callV (q := 141) (kd := 1) (y := 322) (n := 1) (ci := 12) (a := 6952) (vs := [.ref 6952, vI 32]) (r := []) (L2 := [some (.ref 6952), some (vI 32)]) D438_138 (im_cal cn_438 cl_12_432) (Or.inl rfl) rfl sf_6952 rfl rfl rfl rfl hd ⟨rfl, rfl, trivial⟩ ?_
        refine hP.mono ?_
        rintro _ e37 M33 ⟨rfl, rfl, hP⟩
        refine im_bkN ?_
        refine im_ld (q := 142) (i := 0) D438_141 rfl rfl rfl ?_
        refine im_ld (q := 143) (i := 0) D438_142 rfl rfl rfl ?_
        refine im_gfR (q := 146) (b := 7079) D438_143 (im_fl cn_438 fl_12_393) sf_6952 rfl rfl tR_12_173 rf_6952_173 ?_
        refine im_ld (q := 147) (i := 1) D438_146 rfl rfl rfl ?_
        refine im_rng (j := p1) sf_7079 hg1.1 hg1.2 (fun hr34 => ?_)
        refine im_lald (q := 148) D438_147 sf_7079 hg1.1 hg1.2 (by decide) rfl ?_
        refine im_callV (q := 151) (kd := 1) (y := 327) (n := 1) (ci := 12) (a := 6952) (vs := [.ref 6952, vL (M33 7079 p1)]) (r := []) (L2 := [some (.ref 6952), some (vL (M33 7079 p1)), none, none, none, none, none]) D438_148 (im_cal cn_438 cl_12_773) (Or.inl rfl) rfl sf_6952 rfl rfl rfl rfl hd ⟨rfl, rfl, trivial⟩ ?_
        refine hP.mono ?_
        rintro _ e36 M35 ⟨rfl, rfl, hP⟩
        refine im_bkN ?_
        exact im_vret (q := 152) D438_151 rfl hP
      · replace hP := hP.2 (Decidable.not_not.mp hc27)
        refine im_ld (q := 103) (i := 0) D438_102 rfl rfl rfl ?_
        refine im_ld (q := 104) (i := 0) D438_103 rfl rfl rfl ?_
        refine im_gfR (q := 107) (b := 7077) D438_104 (im_fl cn_438 fl_12_387) sf_6952 rfl rfl tR_12_171 rf_6952_171 ?_
        refine im_ld (q := 108) (i := 1) D438_107 rfl rfl rfl ?_
        refine im_rng (j := p1) sf_7077 hg1.1 hg1.2 (fun hr28 => ?_)
        refine im_lald (q := 109) D438_108 sf_7077 hg1.1 hg1.2 (by decide) rfl ?_
        refine im_callV (q := 112) (kd := 1) (y := 320) (n := 1) (ci := 12) (a := 6952) (vs := [.ref 6952, vL (M25 7077 p1)]) (r := []) (L2 := [some (.ref 6952), some (vL (M25 7077 p1)), none]) D438_109 (im_cal cn_438 cl_12_750) (Or.inl rfl) rfl sf_6952 rfl rfl rfl rfl hd ⟨rfl, rfl, trivial⟩ ?_
        refine hP.mono ?_
        rintro _ e54 M41 ⟨rfl, rfl, hP⟩
        refine im_bkN ?_
        refine im_ld (q := 113) (i := 0) D438_112 rfl rfl rfl ?_
        refine im_bipush (q := 115) D438_113 rfl ?_
        refine im_callV (q := 118) (kd := 1) (y := 322) (n := 1) (ci := 12) (a := 6952) (vs := [.ref 6952, vI 32]) (r := []) (L2 := [some (.ref 6952), some (vI 32)]) D438_115 (im_cal cn_438 cl_12_432) (Or.inl rfl) rfl sf_6952 rfl rfl rfl rfl hd ⟨rfl, rfl, trivial⟩ ?_
        refine hP.mono ?_
        rintro _ e53 M42 ⟨rfl, rfl, hP⟩
        refine im_bkN ?_
        refine im_ld (q := 119) (i := 0) D438_118 rfl rfl rfl ?_
        refine im_ld (q := 120) (i := 0) D438_119 rfl rfl rfl ?_
        refine im_gfR (q := 123) (b := 7078) D438_120 (im_fl cn_438 fl_12_390) sf_6952 rfl rfl tR_12_172 rf_6952_172 ?_
        refine im_ld (q := 124) (i := 1) D438_123 rfl rfl rfl ?_
        refine im_rng (j := p1) sf_7078 hg1.1 hg1.2 (fun hr43 => ?_)
        refine im_iald (q := 125) D438_124 sf_7078 hg1.1 hg1.2 (by decide) rfl ?_
        refine im_callV (q := 128) (kd := 1) (y := 324) (n := 1) (ci := 12) (a := 6952) (vs := [.ref 6952, vI (M42 7078 p1)]) (r := []) (L2 := [some (.ref 6952), some (vI (M42 7078 p1)), none]) D438_125 (im_cal cn_438 cl_12_756) (Or.inl rfl) rfl sf_6952 rfl rfl rfl rfl hd ⟨rfl, rfl, trivial⟩ ?_
        refine hP.mono ?_
        rintro _ e52 M44 ⟨rfl, rfl, hP⟩
        refine im_bkN ?_
        refine im_ld (q := 129) (i := 0) D438_128 rfl rfl rfl ?_
        refine im_ldc2 (q := 132) (n := 24948) D438_129 rfl ?_
        refine im_callV (q := 135) (kd := 1) (y := 320) (n := 1) (ci := 12) (a := 6952) (vs := [.ref 6952, vL 24948]) (r := []) (L2 := [some (.ref 6952), some (vL 24948), none]) D438_132 (im_cal cn_438 cl_12_750) (Or.inl rfl) rfl sf_6952 rfl rfl rfl rfl hd ⟨rfl, rfl, trivial⟩ ?_
        refine hP.mono ?_
        rintro _ e51 M45 ⟨rfl, rfl, hP⟩
        refine im_bkN ?_
        refine im_ld (q := 136) (i := 0) D438_135 rfl rfl rfl ?_
        refine im_bipush (q := 138) D438_136 rfl ?_
        refine im_callV (q := 141) (kd := 1) (y := 322) (n := 1) (ci := 12) (a := 6952) (vs := [.ref 6952, vI 32]) (r := []) (L2 := [some (.ref 6952), some (vI 32)]) D438_138 (im_cal cn_438 cl_12_432) (Or.inl rfl) rfl sf_6952 rfl rfl rfl rfl hd ⟨rfl, rfl, trivial⟩ ?_
        refine hP.mono ?_
        rintro _ e50 M46 ⟨rfl, rfl, hP⟩
        refine im_bkN ?_
        refine im_ld (q := 142) (i := 0) D438_141 rfl rfl rfl ?_
        refine im_ld (q := 143) (i := 0) D438_142 rfl rfl rfl ?_
        refine im_gfR (q := 146) (b := 7079) D438_143 (im_fl cn_438 fl_12_393) sf_6952 rfl rfl tR_12_173 rf_6952_173 ?_
        refine im_ld (q := 147) (i := 1) D438_146 rfl rfl rfl ?_
        refine im_rng (j := p1) sf_7079 hg1.1 hg1.2 (fun hr47 => ?_)
        refine im_lald (q := 148) D438_147 sf_7079 hg1.1 hg1.2 (by decide) rfl ?_
        refine im_callV (q := 151) (kd := 1) (y := 327) (n := 1) (ci := 12) (a := 6952) (vs := [.ref 6952, vL (M46 7079 p1)]) (r := []) (L2 := [some (.ref 6952), some (vL (M46 7079 p1)), none, none, none, none, none]) D438_148 (im_cal cn_438 cl_12_773) (Or.inl rfl) rfl sf_6952 rfl rfl rfl rfl hd ⟨rfl, rfl, trivial⟩ ?_
        refine hP.mono ?_
        rintro _ e49 M48 ⟨rfl, rfl, hP⟩
        refine im_bkN ?_
        exact im_vret (q := 152) D438_151 rfl hP
  refine im_ifc (q := 9) (t := 19) D438_6 rfl hr2 (fun hc3 => ?_) (fun hc3 => ?_)
  · refine im_ld (q := 20) (i := 0) D438_19 rfl rfl rfl ?_
    refine im_ld (q := 21) (i := 0) D438_20 rfl rfl rfl ?_
    refine im_gfR (q := 24) (b := 7074) D438_21 (im_fl cn_438 fl_12_378) sf_6952 rfl rfl tR_12_168 rf_6952_168 ?_
    refine im_ld (q := 25) (i := 1) D438_24 rfl rfl rfl ?_
    refine im_iald (q := 26) D438_25 sf_7074 hg1.1 hg1.2 (by decide) rfl ?_
    refine im_bipush (q := 28) D438_26 rfl ?_
    refine im_icmp (q := 31) (t := 37) D438_28 rfl hr2 (by decide) (fun hc5 => ?_) (fun hc5 => ?_)
    · refine im_ld (q := 38) (i := 0) D438_37 rfl rfl rfl ?_
      refine im_gfR (q := 41) (b := 7074) D438_38 (im_fl cn_438 fl_12_378) sf_6952 rfl rfl tR_12_168 rf_6952_168 ?_
      refine im_ld (q := 42) (i := 1) D438_41 rfl rfl rfl ?_
      refine im_iald (q := 43) D438_42 sf_7074 hg1.1 hg1.2 (by decide) rfl ?_
      refine im_bipush (q := 45) D438_43 rfl ?_
      refine im_icmp (q := 48) (t := 54) D438_45 rfl hr2 (by decide) (fun hc7 => ?_) (fun hc7 => ?_)
      · refine im_ldc2 (q := 57) (n := 121424973489785) D438_54 rfl ?_
        exact (kJ10 (121424973489785) (Or.inl ⟨hc3, hc5, hc7, rfl⟩)).wk ⟨rfl, rfl, trivial⟩
      · refine im_ldc2 (q := 51) (n := 109300196926309) D438_48 rfl ?_
        refine im_goto (q := 54) (t := 57) D438_51 rfl ?_
        exact (kJ10 (109300196926309) (Or.inr (Or.inl ⟨hc3, hc5, (Decidable.not_not.mp hc7), rfl⟩))).wk ⟨rfl, rfl, trivial⟩
    · refine im_ldc2 (q := 34) (n := 28259031251642740) D438_31 rfl ?_
      refine im_goto (q := 37) (t := 57) D438_34 rfl ?_
      exact (kJ10 (28259031251642740) (Or.inr (Or.inr ⟨hc3, (Decidable.not_not.mp hc5), rfl⟩))).wk ⟨rfl, rfl, trivial⟩
  · replace hP := hP (Decidable.not_not.mp hc3)
    refine im_ld (q := 10) (i := 0) D438_9 rfl rfl rfl ?_
    refine im_ldc2 (q := 13) (n := 2002872692) D438_10 rfl ?_
    refine im_callV (q := 16) (kd := 1) (y := 320) (n := 1) (ci := 12) (a := 6952) (vs := [.ref 6952, vL 2002872692]) (r := []) (L2 := [some (.ref 6952), some (vL 2002872692), none]) D438_13 (im_cal cn_438 cl_12_750) (Or.inl rfl) rfl sf_6952 rfl rfl rfl rfl hd ⟨rfl, rfl, trivial⟩ ?_
    refine hP.mono ?_
    rintro _ e64 M58 ⟨rfl, rfl, hP⟩
    refine im_bkN ?_
    refine im_goto (q := 19) (t := 135) D438_16 rfl ?_
    refine im_ld (q := 136) (i := 0) D438_135 rfl rfl rfl ?_
    refine im_bipush (q := 138) D438_136 rfl ?_
    refine im_callV (q := 141) (kd := 1) (y := 322) (n := 1) (ci := 12) (a := 6952) (vs := [.ref 6952, vI 32]) (r := []) (L2 := [some (.ref 6952), some (vI 32)]) D438_138 (im_cal cn_438 cl_12_432) (Or.inl rfl) rfl sf_6952 rfl rfl rfl rfl hd ⟨rfl, rfl, trivial⟩ ?_
    refine hP.mono ?_
    rintro _ e63 M59 ⟨rfl, rfl, hP⟩
    refine im_bkN ?_
    refine im_ld (q := 142) (i := 0) D438_141 rfl rfl rfl ?_
    refine im_ld (q := 143) (i := 0) D438_142 rfl rfl rfl ?_
    refine im_gfR (q := 146) (b := 7079) D438_143 (im_fl cn_438 fl_12_393) sf_6952 rfl rfl tR_12_173 rf_6952_173 ?_
    refine im_ld (q := 147) (i := 1) D438_146 rfl rfl rfl ?_
    refine im_rng (j := p1) sf_7079 hg1.1 hg1.2 (fun hr60 => ?_)
    refine im_lald (q := 148) D438_147 sf_7079 hg1.1 hg1.2 (by decide) rfl ?_
    refine im_callV (q := 151) (kd := 1) (y := 327) (n := 1) (ci := 12) (a := 6952) (vs := [.ref 6952, vL (M59 7079 p1)]) (r := []) (L2 := [some (.ref 6952), some (vL (M59 7079 p1)), none, none, none, none, none]) D438_148 (im_cal cn_438 cl_12_773) (Or.inl rfl) rfl sf_6952 rfl rfl rfl rfl hd ⟨rfl, rfl, trivial⟩ ?_
    refine hP.mono ?_
    rintro _ e62 M61 ⟨rfl, rfl, hP⟩
    refine im_bkN ?_
    exact im_vret (q := 152) D438_151 rfl hP
set_option maxRecDepth 20000 in
set_option maxHeartbeats 4000000 in
theorem b_tries_0 {g : im_g} {d : Nat} {e : im_E} {M : im_M} {K : im_K} (hd : 1 ≤ d) (hP : im_T g (d - 1) 264 0 [some (.ref 6952), some (vI 1), some (vI 1), some (vI 1), some (vI 1)] [] e M (im_ri (fun x2 e_ M1 => e = e_ ∧ (im_i32 x2) ∧ ((∀ x6 : Int, (((x2 = 0) ∧ x6 = 0) ∨ ((¬ x2 = 0) ∧ x6 = (M1 6952 175))) → K (.inl (some (vI x6))) e M1))))) : im_T g d 439 0 [some (.ref 6952)] [] e M K := by
  refine im_ld (q := 1) (i := 0) D439_0 rfl rfl rfl ?_
  refine im_iconst (q := 2) D439_1 ?_
  refine im_iconst (q := 3) D439_2 ?_
  refine im_iconst (q := 4) D439_3 ?_
  refine im_iconst (q := 5) D439_4 ?_
  refine im_callV (q := 8) (kd := 1) (y := 264) (n := 4) (ci := 12) (a := 6952) (vs := [.ref 6952, vI 1, vI 1, vI 1, vI 1]) (r := []) (L2 := [some (.ref 6952), some (vI 1), some (vI 1), some (vI 1), some (vI 1)]) D439_5 (im_cal cn_439 cl_12_419) (Or.inl rfl) rfl sf_6952 rfl rfl rfl rfl hd ⟨rfl, rfl, rfl, rfl, rfl, trivial⟩ ?_
  refine hP.mono ?_
  rintro _ e10 M1 ⟨x2, rfl, rfl, hP⟩
  refine im_bkS ?_
  obtain ⟨hg3, hP⟩ := hP
  have hJ7 := hP
  have kJ8 : ∀ x6 : Int, (((x2 = 0) ∧ x6 = 0) ∨ ((¬ x2 = 0) ∧ x6 = (M1 6952 175))) → im_T g d 439 19 [none] [vI x6] e M1 K := by
    intro x6 hx9
    have hP := hJ7 x6 hx9
    exact im_iret (q := 20) D439_19 rfl hP
  refine im_ifc (q := 11) (t := 18) D439_8 rfl hg3 (fun hc4 => ?_) (fun hc4 => ?_)
  · refine im_iconst (q := 19) D439_18 ?_
    exact (kJ8 (0) (Or.inl ⟨hc4, rfl⟩)).wk trivial
  · refine im_ld (q := 12) (i := 0) D439_11 rfl rfl rfl ?_
    refine im_rng (j := 175) sf_6952 (by decide) (by decide) (fun hr5 => ?_)
    refine im_gfI (q := 15) D439_12 (im_fl cn_439 fl_12_1111) sf_6952 rfl rfl tI_12_175 rfl ?_
    refine im_goto (q := 18) (t := 19) D439_15 rfl ?_
    exact (kJ8 ((M1 6952 175)) (Or.inr ⟨hc4, rfl⟩)).wk trivial
set_option maxRecDepth 20000 in
set_option maxHeartbeats 4000000 in
theorem b_fuse_0 {g : im_g} {d : Nat} {e : im_E} {M : im_M} {K : im_K} {p1 : Int} (hd : 1 ≤ d) (hP : (im_i32 p1) ∧ ((∀ x3 : Int, (((p1 < (-1)) ∧ x3 = 0) ∨ (((-1) ≤ p1) ∧ x3 = 1)) → im_T g (d - 1) 264 0 [some (.ref 6952), some (vI 2), some (vI x3), some (vI 1), some (vI 1)] [] e M (im_ri (fun x8 e_ M7 => e = e_ ∧ (im_i32 x8) ∧ ((x8 = 0 → K (.inl none) e M7) ∧ (¬ x8 = 0 → K (.inl none) e (im_u M7 6952 179 p1)))))))) : im_T g d 440 0 [some (.ref 6952), some (vI p1)] [] e M K := by
  refine im_ld (q := 1) (i := 0) D440_0 rfl rfl rfl ?_
  refine im_iconst (q := 2) D440_1 ?_
  refine im_ld (q := 3) (i := 1) D440_2 rfl rfl rfl ?_
  refine im_iconst (q := 4) D440_3 ?_
  obtain ⟨hg1, hP⟩ := hP
  have hJ4 := hP
  have kJ5 : ∀ x3 : Int, (((p1 < (-1)) ∧ x3 = 0) ∨ (((-1) ≤ p1) ∧ x3 = 1)) → im_T g d 440 12 [some (.ref 6952), some (vI p1)] [vI x3, vI 2, .ref 6952] e M K := by
    intro x3 hx6
    have hP := hJ4 x3 hx6
    refine im_iconst (q := 13) D440_12 ?_
    refine im_iconst (q := 14) D440_13 ?_
    refine im_callV (q := 17) (kd := 1) (y := 264) (n := 4) (ci := 12) (a := 6952) (vs := [.ref 6952, vI 2, vI x3, vI 1, vI 1]) (r := []) (L2 := [some (.ref 6952), some (vI 2), some (vI x3), some (vI 1), some (vI 1)]) D440_14 (im_cal cn_440 cl_12_419) (Or.inl rfl) rfl sf_6952 rfl rfl rfl rfl hd ⟨rfl, rfl, rfl, rfl, rfl, trivial⟩ ?_
    refine hP.mono ?_
    rintro _ e11 M7 ⟨x8, rfl, rfl, hP⟩
    refine im_bkS ?_
    obtain ⟨hg9, hP⟩ := hP
    refine im_ifc (q := 20) (t := 25) D440_17 rfl hg9 (fun hc10 => ?_) (fun hc10 => ?_)
    · replace hP := hP.1 hc10
      exact im_vret (q := 26) D440_25 rfl hP
    · replace hP := hP.2 hc10
      refine im_ld (q := 21) (i := 0) D440_20 rfl rfl rfl ?_
      refine im_ld (q := 22) (i := 1) D440_21 rfl rfl rfl ?_
      refine im_pfI (q := 25) D440_22 (im_fl cn_440 fl_12_399) sf_6952 rfl rfl ti_12_179 hg1 ?_
      exact im_vret (q := 26) D440_25 rfl hP
  refine im_icmp (q := 7) (t := 11) D440_4 rfl hg1 (by decide) (fun hc2 => ?_) (fun hc2 => ?_)
  · refine im_iconst (q := 12) D440_11 ?_
    exact (kJ5 (0) (Or.inl ⟨hc2, rfl⟩)).wk ⟨rfl, rfl, trivial⟩
  · refine im_iconst (q := 8) D440_7 ?_
    refine im_goto (q := 11) (t := 12) D440_8 rfl ?_
    exact (kJ5 (1) (Or.inr ⟨(Int.not_lt.mp hc2), rfl⟩)).wk ⟨rfl, rfl, trivial⟩
set_option maxRecDepth 20000 in
set_option maxHeartbeats 4000000 in
theorem b_peek_0 {g : im_g} {d : Nat} {e : im_E} {M : im_M} {K : im_K} {p1 : Int} (hd : 1 ≤ d) (hP : (im_i32 p1) ∧ im_T g (d - 1) 268 0 [some (vL p1), none, some (vL 0), none, some (vL 16383), none] [] e M (im_ri (fun x3 e_ M2 => e = e_ ∧ (im_i32 x3) ∧ ((∀ x6 : Int, (((x3 = 0) ∧ x6 = 1) ∨ ((¬ x3 = 0) ∧ x6 = 0)) → ((((x6 ≤ 0 → (0 ≤ p1 ∧ p1 < 16384)))) ∧ (∀ x14 : Int, (((x6 ≤ 0) ∧ x14 = (M2 7080 p1)) ∨ ((0 < x6) ∧ x14 = 0)) → K (.inl (some (vI x14))) e (im_u M2 6952 0 x6)))))))) : im_T g d 441 0 [some (.ref 6952), some (vI p1)] [] e M K := by
  refine im_ld (q := 1) (i := 0) D441_0 rfl rfl rfl ?_
  refine im_ld (q := 2) (i := 1) D441_1 rfl rfl rfl ?_
  obtain ⟨hg1, hP⟩ := hP
  refine im_i2l (q := 3) D441_2 hg1 ?_
  refine im_lconst (q := 4) (z := 0) D441_3 rfl ?_
  refine im_ldc2 (q := 7) (n := 16383) D441_4 rfl ?_
  refine im_callS (q := 10) (kd := 0) (y := 268) (n := 3) (z := 12) (vs := [vL p1, vL 0, vL 16383]) (r := [.ref 6952]) (L2 := [some (vL p1), none, some (vL 0), none, some (vL 16383), none]) D441_7 rfl (im_cal cn_441 cl_12_428) (Or.inl rfl) rfl rfl rfl rfl rfl hd ⟨rfl, rfl, rfl, trivial⟩ ?_
  refine hP.mono ?_
  rintro _ e18 M2 ⟨x3, rfl, rfl, hP⟩
  refine im_bkS ?_
  obtain ⟨hg4, hP⟩ := hP
  have hJ7 := hP
  have kJ8 : ∀ x6 : Int, (((x3 = 0) ∧ x6 = 1) ∨ ((¬ x3 = 0) ∧ x6 = 0)) → im_T g d 441 18 [some (.ref 6952), some (vI p1)] [vI x6, .ref 6952] e M2 K := by
    intro x6 hx9
    have hP := hJ7 x6 hx9
    refine im_pfI (q := 21) D441_18 (im_fl cn_441 fl_12_409) sf_6952 rfl rfl ti_12_0 (by omega) ?_
    refine im_ld (q := 22) (i := 0) D441_21 rfl rfl rfl ?_
    refine im_gfI (q := 25) D441_22 (im_fl cn_441 fl_12_409) sf_6952 rfl rfl tI_12_0 (im_rds _ _ _ _) ?_
    obtain ⟨hP, hJ15⟩ := hP
    have kJ16 : ∀ x14 : Int, (((x6 ≤ 0) ∧ x14 = (M2 7080 p1)) ∨ ((0 < x6) ∧ x14 = 0)) → im_T g d 441 38 [none, none] [vI x14] e (im_u M2 6952 0 x6) K := by
      intro x14 hx17
      have hP := hJ15 x14 hx17
      exact im_iret (q := 39) D441_38 rfl hP
    refine im_ifc (q := 28) (t := 32) D441_25 rfl (by omega) (fun hc11 => ?_) (fun hc11 => ?_)
    · replace hP := hP hc11
      refine im_ld (q := 33) (i := 0) D441_32 rfl rfl rfl ?_
      refine im_gfR (q := 36) (b := 7080) D441_33 (im_fl cn_441 fl_12_396) sf_6952 rfl rfl tR_12_176 rf_6952_176 ?_
      refine im_ld (q := 37) (i := 1) D441_36 rfl rfl rfl ?_
      have hg12 := hP
      refine im_rng (j := p1) sf_7080 hg12.1 hg12.2 (fun hr13 => ?_)
      refine im_iald (q := 38) D441_37 sf_7080 hg12.1 hg12.2 (by decide) (im_rdn _ _ _ _ (by decide)) ?_
      exact (kJ16 ((M2 7080 p1)) (Or.inl ⟨hc11, rfl⟩)).wk trivial
    · refine im_iconst (q := 29) D441_28 ?_
      refine im_goto (q := 32) (t := 38) D441_29 rfl ?_
      exact (kJ16 (0) (Or.inr ⟨(Int.not_le.mp hc11), rfl⟩)).wk trivial
  refine im_ifc (q := 13) (t := 17) D441_10 rfl hg4 (fun hc5 => ?_) (fun hc5 => ?_)
  · refine im_iconst (q := 18) D441_17 ?_
    exact (kJ8 (1) (Or.inl ⟨hc5, rfl⟩)).wk ⟨rfl, rfl, trivial⟩
  · refine im_iconst (q := 14) D441_13 ?_
    refine im_goto (q := 17) (t := 18) D441_14 rfl ?_
    exact (kJ8 (0) (Or.inr ⟨hc5, rfl⟩)).wk ⟨rfl, rfl, trivial⟩
set_option maxRecDepth 20000 in
set_option maxHeartbeats 4000000 in
theorem b_poke_0 {g : im_g} {d : Nat} {e : im_E} {M : im_M} {K : im_K} {p1 p2 : Int} (hd : 1 ≤ d) (hP : (im_i32 p1) ∧ im_T g (d - 1) 268 0 [some (vL p1), none, some (vL 0), none, some (vL 16383), none] [] e M (im_ri (fun x3 e_ M2 => e = e_ ∧ (im_i32 x3) ∧ ((¬ x3 = 0 → (im_i32 p2) ∧ im_T g (d - 1) 268 0 [some (vL p2), none, some (vL 0), none, some (vL 255), none] [] e M2 (im_ri (fun x8 e_ M7 => e = e_ ∧ (im_i32 x8) ∧ ((∀ x13 : Int, (((¬ x8 = 0) ∧ (¬ (M7 6952 180) = 0) ∧ x13 = 0) ∨ ((¬ x8 = 0) ∧ ((M7 6952 180) = 0) ∧ x13 = 3) ∨ ((x8 = 0) ∧ x13 = 2)) → ((x13 ≤ 0 → (0 ≤ p1 ∧ p1 < 16384) ∧ K (.inl (some (vI (M7 7080 p1)))) e (im_u (im_u M7 6952 0 x13) 7080 p1 p2)) ∧ (0 < x13 → K (.inl (some (vI 0))) e (im_u M7 6952 0 x13)))))))) ∧ (x3 = 0 → K (.inl (some (vI 0))) e (im_u M2 6952 0 1)))))) : im_T g d 442 0 [some (.ref 6952), some (vI p1), some (vI p2), none] [] e M K := by
  refine im_ld (q := 1) (i := 0) D442_0 rfl rfl rfl ?_
  refine im_ld (q := 2) (i := 1) D442_1 rfl rfl rfl ?_
  obtain ⟨hg1, hP⟩ := hP
  refine im_i2l (q := 3) D442_2 hg1 ?_
  refine im_lconst (q := 4) (z := 0) D442_3 rfl ?_
  refine im_ldc2 (q := 7) (n := 16383) D442_4 rfl ?_
  refine im_callS (q := 10) (kd := 0) (y := 268) (n := 3) (z := 12) (vs := [vL p1, vL 0, vL 16383]) (r := [.ref 6952]) (L2 := [some (vL p1), none, some (vL 0), none, some (vL 16383), none]) D442_7 rfl (im_cal cn_442 cl_12_428) (Or.inl rfl) rfl rfl rfl rfl rfl hd ⟨rfl, rfl, rfl, trivial⟩ ?_
  refine hP.mono ?_
  rintro _ e24 M2 ⟨x3, rfl, rfl, hP⟩
  refine im_bkS ?_
  obtain ⟨hg4, hP⟩ := hP
  refine im_ifc (q := 13) (t := 17) D442_10 rfl hg4 (fun hc5 => ?_) (fun hc5 => ?_)
  · replace hP := hP.1 hc5
    refine im_ld (q := 18) (i := 2) D442_17 rfl rfl rfl ?_
    obtain ⟨hg6, hP⟩ := hP
    refine im_i2l (q := 19) D442_18 hg6 ?_
    refine im_lconst (q := 20) (z := 0) D442_19 rfl ?_
    refine im_ldc2 (q := 23) (n := 255) D442_20 rfl ?_
    refine im_callS (q := 26) (kd := 0) (y := 268) (n := 3) (z := 12) (vs := [vL p2, vL 0, vL 255]) (r := [.ref 6952]) (L2 := [some (vL p2), none, some (vL 0), none, some (vL 255), none]) D442_23 rfl (im_cal cn_442 cl_12_428) (Or.inl rfl) rfl rfl rfl rfl rfl hd ⟨rfl, rfl, rfl, trivial⟩ ?_
    refine hP.mono ?_
    rintro _ e21 M7 ⟨x8, rfl, rfl, hP⟩
    refine im_bkS ?_
    obtain ⟨hg9, hP⟩ := hP
    have hJ14 := hP
    have kJ15 : ∀ x13 : Int, (((¬ x8 = 0) ∧ (¬ (M7 6952 180) = 0) ∧ x13 = 0) ∨ ((¬ x8 = 0) ∧ ((M7 6952 180) = 0) ∧ x13 = 3) ∨ ((x8 = 0) ∧ x13 = 2)) → im_T g d 442 45 [some (.ref 6952), some (vI p1), some (vI p2), none] [vI x13, .ref 6952] e M7 K := by
      intro x13 hx16
      have hP := hJ14 x13 hx16
      refine im_pfI (q := 48) D442_45 (im_fl cn_442 fl_12_409) sf_6952 rfl rfl ti_12_0 (by omega) ?_
      refine im_ld (q := 49) (i := 0) D442_48 rfl rfl rfl ?_
      refine im_gfI (q := 52) D442_49 (im_fl cn_442 fl_12_409) sf_6952 rfl rfl tI_12_0 (im_rds _ _ _ _) ?_
      refine im_ifc (q := 55) (t := 57) D442_52 rfl (by omega) (fun hc18 => ?_) (fun hc18 => ?_)
      · replace hP := hP.1 hc18
        refine im_ld (q := 58) (i := 0) D442_57 rfl rfl rfl ?_
        refine im_gfR (q := 61) (b := 7080) D442_58 (im_fl cn_442 fl_12_396) sf_6952 rfl rfl tR_12_176 rf_6952_176 ?_
        refine im_ld (q := 62) (i := 1) D442_61 rfl rfl rfl ?_
        obtain ⟨hg19, hP⟩ := hP
        refine im_rng (j := p1) sf_7080 hg19.1 hg19.2 (fun hr20 => ?_)
        refine im_iald (q := 63) D442_62 sf_7080 hg19.1 hg19.2 (by decide) (im_rdn _ _ _ _ (by decide)) ?_
        refine im_st1 (q := 64) (i := 3) (L' := [some (.ref 6952), some (vI p1), some (vI p2), some (vI (M7 7080 p1))]) D442_63 (Or.inl ⟨_, rfl, rfl⟩) (Nat.le_of_ble_eq_true rfl) rfl ?_
        refine im_ld (q := 65) (i := 0) D442_64 rfl rfl rfl ?_
        refine im_gfR (q := 68) (b := 7080) D442_65 (im_fl cn_442 fl_12_396) sf_6952 rfl rfl tR_12_176 rf_6952_176 ?_
        refine im_ld (q := 69) (i := 1) D442_68 rfl rfl rfl ?_
        refine im_ld (q := 70) (i := 2) D442_69 rfl rfl rfl ?_
        refine im_iast (q := 71) D442_70 sf_7080 hg19.1 hg19.2 (by decide) hg6 ?_
        refine im_ld (q := 72) (i := 3) D442_71 rfl rfl rfl ?_
        exact im_iret (q := 73) D442_72 rfl hP
      · replace hP := hP.2 (Int.not_le.mp hc18)
        refine im_iconst (q := 56) D442_55 ?_
        exact im_iret (q := 57) D442_56 rfl hP
    refine im_ifc (q := 29) (t := 33) D442_26 rfl hg9 (fun hc10 => ?_) (fun hc10 => ?_)
    · refine im_ld (q := 34) (i := 0) D442_33 rfl rfl rfl ?_
      refine im_rng (j := 180) sf_6952 (by decide) (by decide) (fun hr11 => ?_)
      refine im_gfI (q := 37) D442_34 (im_fl cn_442 fl_12_412) sf_6952 rfl rfl tI_12_180 rfl ?_
      refine im_ifc (q := 40) (t := 44) D442_37 rfl (im_z32 hr11) (fun hc12 => ?_) (fun hc12 => ?_)
      · refine im_iconst (q := 45) D442_44 ?_
        exact (kJ15 (0) (Or.inl ⟨hc10, hc12, rfl⟩)).wk ⟨rfl, rfl, rfl, trivial⟩
      · refine im_iconst (q := 41) D442_40 ?_
        refine im_goto (q := 44) (t := 45) D442_41 rfl ?_
        exact (kJ15 (3) (Or.inr (Or.inl ⟨hc10, (Decidable.not_not.mp hc12), rfl⟩))).wk ⟨rfl, rfl, rfl, trivial⟩
    · refine im_iconst (q := 30) D442_29 ?_
      refine im_goto (q := 33) (t := 45) D442_30 rfl ?_
      exact (kJ15 (2) (Or.inr (Or.inr ⟨(Decidable.not_not.mp hc10), rfl⟩))).wk ⟨rfl, rfl, rfl, trivial⟩
  · replace hP := hP.2 (Decidable.not_not.mp hc5)
    refine im_iconst (q := 14) D442_13 ?_
    refine im_goto (q := 17) (t := 45) D442_14 rfl ?_
    refine im_pfI (q := 48) D442_45 (im_fl cn_442 fl_12_409) sf_6952 rfl rfl ti_12_0 (by decide) ?_
    refine im_ld (q := 49) (i := 0) D442_48 rfl rfl rfl ?_
    refine im_gfI (q := 52) D442_49 (im_fl cn_442 fl_12_409) sf_6952 rfl rfl tI_12_0 (im_rds _ _ _ _) ?_
    refine im_ifc (q := 55) (t := 57) D442_52 rfl (by decide) (fun hc => absurd hc (show ¬ ((1 : Int) ≤ 0) by decide)) (fun _ => ?_)
    refine im_iconst (q := 56) D442_55 ?_
    exact im_iret (q := 57) D442_56 rfl hP
set_option maxRecDepth 20000 in
set_option maxHeartbeats 4000000 in
theorem b_cut_0 {g : im_g} {d : Nat} {e : im_E} {M : im_M} {K : im_K} (hd : 1 ≤ d) (hP : im_T g (d - 1) 264 0 [some (.ref 6952), some (vI 1), some (vI 1), some (vI 1), some (vI 1)] [] e M (im_ri (fun x2 e_ M1 => e = e_ ∧ (im_i32 x2) ∧ ((x2 = 0 → K (.inl none) e M1) ∧ (¬ x2 = 0 → K (.inl none) e (im_u M1 6952 180 1)))))) : im_T g d 443 0 [some (.ref 6952)] [] e M K := by
  refine im_ld (q := 1) (i := 0) D443_0 rfl rfl rfl ?_
  refine im_iconst (q := 2) D443_1 ?_
  refine im_iconst (q := 3) D443_2 ?_
  refine im_iconst (q := 4) D443_3 ?_
  refine im_iconst (q := 5) D443_4 ?_
  refine im_callV (q := 8) (kd := 1) (y := 264) (n := 4) (ci := 12) (a := 6952) (vs := [.ref 6952, vI 1, vI 1, vI 1, vI 1]) (r := []) (L2 := [some (.ref 6952), some (vI 1), some (vI 1), some (vI 1), some (vI 1)]) D443_5 (im_cal cn_443 cl_12_419) (Or.inl rfl) rfl sf_6952 rfl rfl rfl rfl hd ⟨rfl, rfl, rfl, rfl, rfl, trivial⟩ ?_
  refine hP.mono ?_
  rintro _ e5 M1 ⟨x2, rfl, rfl, hP⟩
  refine im_bkS ?_
  obtain ⟨hg3, hP⟩ := hP
  refine im_ifc (q := 11) (t := 16) D443_8 rfl hg3 (fun hc4 => ?_) (fun hc4 => ?_)
  · replace hP := hP.1 hc4
    exact im_vret (q := 17) D443_16 rfl hP
  · replace hP := hP.2 hc4
    refine im_ld (q := 12) (i := 0) D443_11 rfl rfl rfl ?_
    refine im_iconst (q := 13) D443_12 ?_
    refine im_pfZ (q := 16) D443_13 (im_fl cn_443 fl_12_412) sf_6952 rfl rfl tz_12_180 (by decide) ?_
    exact im_vret (q := 17) D443_16 rfl hP
set_option maxRecDepth 20000 in
set_option maxHeartbeats 4000000 in
theorem b_recover_0 {g : im_g} {d : Nat} {e : im_E} {M : im_M} {K : im_K} (hP : im_T g d 444 82 [some (.ref 6952), some (vI 0)] [] e (im_u (im_u (im_u (im_u (im_u (im_u (im_u (im_u (im_u (im_u (im_u (im_u (im_u (im_u (im_u (im_u M 6952 0 0) 6952 180 0) 6952 179 (-1)) 6952 2 0) 6952 4 0) 6952 62 0) 6952 130 0) 6952 134 0) 6952 137 0) 6952 143 0) 6952 175 0) 6952 38 0) 6952 36 0) 6952 6 0) 6952 177 0) 6952 178 0) K) : im_T g d 444 0 [some (.ref 6952), none] [] e M K := by
  refine im_ld (q := 1) (i := 0) D444_0 rfl rfl rfl ?_
  refine im_iconst (q := 2) D444_1 ?_
  refine im_pfI (q := 5) D444_2 (im_fl cn_444 fl_12_409) sf_6952 rfl rfl ti_12_0 (by decide) ?_
  refine im_ld (q := 6) (i := 0) D444_5 rfl rfl rfl ?_
  refine im_iconst (q := 7) D444_6 ?_
  refine im_pfZ (q := 10) D444_7 (im_fl cn_444 fl_12_412) sf_6952 rfl rfl tz_12_180 (by decide) ?_
  refine im_ld (q := 11) (i := 0) D444_10 rfl rfl rfl ?_
  refine im_iconst (q := 12) D444_11 ?_
  refine im_pfI (q := 15) D444_12 (im_fl cn_444 fl_12_399) sf_6952 rfl rfl ti_12_179 (by decide) ?_
  refine im_ld (q := 16) (i := 0) D444_15 rfl rfl rfl ?_
  refine im_iconst (q := 17) D444_16 ?_
  refine im_pfI (q := 20) D444_17 (im_fl cn_444 fl_12_416) sf_6952 rfl rfl ti_12_2 (by decide) ?_
  refine im_ld (q := 21) (i := 0) D444_20 rfl rfl rfl ?_
  refine im_iconst (q := 22) D444_21 ?_
  refine im_pfI (q := 25) D444_22 (im_fl cn_444 fl_12_423) sf_6952 rfl rfl ti_12_4 (by decide) ?_
  refine im_ld (q := 26) (i := 0) D444_25 rfl rfl rfl ?_
  refine im_iconst (q := 27) D444_26 ?_
  refine im_pfI (q := 30) D444_27 (im_fl cn_444 fl_12_794) sf_6952 rfl rfl ti_12_62 (by decide) ?_
  refine im_ld (q := 31) (i := 0) D444_30 rfl rfl rfl ?_
  refine im_iconst (q := 32) D444_31 ?_
  refine im_pfI (q := 35) D444_32 (im_fl cn_444 fl_12_1032) sf_6952 rfl rfl ti_12_130 (by decide) ?_
  refine im_ld (q := 36) (i := 0) D444_35 rfl rfl rfl ?_
  refine im_iconst (q := 37) D444_36 ?_
  refine im_pfI (q := 40) D444_37 (im_fl cn_444 fl_12_1071) sf_6952 rfl rfl ti_12_134 (by decide) ?_
  refine im_ld (q := 41) (i := 0) D444_40 rfl rfl rfl ?_
  refine im_iconst (q := 42) D444_41 ?_
  refine im_pfI (q := 45) D444_42 (im_fl cn_444 fl_12_1035) sf_6952 rfl rfl ti_12_137 (by decide) ?_
  refine im_ld (q := 46) (i := 0) D444_45 rfl rfl rfl ?_
  refine im_iconst (q := 47) D444_46 ?_
  refine im_pfI (q := 50) D444_47 (im_fl cn_444 fl_12_1038) sf_6952 rfl rfl ti_12_143 (by decide) ?_
  refine im_ld (q := 51) (i := 0) D444_50 rfl rfl rfl ?_
  refine im_iconst (q := 52) D444_51 ?_
  refine im_pfI (q := 55) D444_52 (im_fl cn_444 fl_12_1111) sf_6952 rfl rfl ti_12_175 (by decide) ?_
  refine im_ld (q := 56) (i := 0) D444_55 rfl rfl rfl ?_
  refine im_iconst (q := 57) D444_56 ?_
  refine im_pfI (q := 60) D444_57 (im_fl cn_444 fl_12_632) sf_6952 rfl rfl ti_12_38 (by decide) ?_
  refine im_ld (q := 61) (i := 0) D444_60 rfl rfl rfl ?_
  refine im_iconst (q := 62) D444_61 ?_
  refine im_pfI (q := 65) D444_62 (im_fl cn_444 fl_12_710) sf_6952 rfl rfl ti_12_36 (by decide) ?_
  refine im_ld (q := 66) (i := 0) D444_65 rfl rfl rfl ?_
  refine im_iconst (q := 67) D444_66 ?_
  refine im_pfI (q := 70) D444_67 (im_fl cn_444 fl_12_617) sf_6952 rfl rfl ti_12_6 (by decide) ?_
  refine im_ld (q := 71) (i := 0) D444_70 rfl rfl rfl ?_
  refine im_iconst (q := 72) D444_71 ?_
  refine im_pfI (q := 75) D444_72 (im_fl cn_444 fl_12_1140) sf_6952 rfl rfl ti_12_177 (by decide) ?_
  refine im_ld (q := 76) (i := 0) D444_75 rfl rfl rfl ?_
  refine im_iconst (q := 77) D444_76 ?_
  refine im_pfI (q := 80) D444_77 (im_fl cn_444 fl_12_1154) sf_6952 rfl rfl ti_12_178 (by decide) ?_
  refine im_iconst (q := 81) D444_80 ?_
  refine im_st1 (q := 82) (i := 1) (L' := [some (.ref 6952), some (vI 0)]) D444_81 (Or.inl ⟨_, rfl, rfl⟩) (Nat.le_of_ble_eq_true rfl) rfl ?_
  exact hP.wk ⟨rfl, rfl, trivial⟩
set_option maxRecDepth 20000 in
set_option maxHeartbeats 4000000 in
theorem b_recover_82 {g : im_g} {d : Nat} {e : im_E} {M : im_M} {K : im_K} {p1 : Int} (hP : (im_i32 p1) ∧ ((16 ≤ p1 → im_T g d 444 110 [some (.ref 6952), some (vI 1)] [] e M K) ∧ (p1 < 16 → (0 ≤ p1 ∧ p1 < 16) ∧ im_T g d 444 82 [some (.ref 6952), some (vI (p1 + 1))] [] e (im_u (im_u M 6984 p1 0) 6994 p1 0) K))) : im_T g d 444 82 [some (.ref 6952), some (vI p1)] [] e M K := by
  refine im_ld (q := 83) (i := 1) D444_82 rfl rfl rfl ?_
  refine im_bipush (q := 85) D444_83 rfl ?_
  obtain ⟨hg1, hP⟩ := hP
  refine im_icmp (q := 88) (t := 108) D444_85 rfl hg1 (by decide) (fun hc2 => ?_) (fun hc2 => ?_)
  · replace hP := hP.1 hc2
    refine im_iconst (q := 109) D444_108 ?_
    refine im_st1 (q := 110) (i := 1) (L' := [some (.ref 6952), some (vI 1)]) D444_109 (Or.inl ⟨_, rfl, rfl⟩) (Nat.le_of_ble_eq_true rfl) rfl ?_
    exact hP.wk ⟨rfl, rfl, trivial⟩
  · replace hP := hP.2 (Int.not_le.mp hc2)
    refine im_ld (q := 89) (i := 0) D444_88 rfl rfl rfl ?_
    refine im_gfR (q := 92) (b := 6984) D444_89 (im_fl cn_444 fl_12_106) sf_6952 rfl rfl tR_12_52 rf_6952_52 ?_
    refine im_ld (q := 93) (i := 1) D444_92 rfl rfl rfl ?_
    refine im_iconst (q := 94) D444_93 ?_
    obtain ⟨hg3, hP⟩ := hP
    refine im_zast (q := 95) D444_94 sf_6984 hg3.1 hg3.2 (by decide) (by decide) ?_
    refine im_ld (q := 96) (i := 0) D444_95 rfl rfl rfl ?_
    refine im_gfR (q := 99) (b := 6994) D444_96 (im_fl cn_444 fl_12_136) sf_6952 rfl rfl tR_12_66 rf_6952_66 ?_
    refine im_ld (q := 100) (i := 1) D444_99 rfl rfl rfl ?_
    refine im_iconst (q := 101) D444_100 ?_
    refine im_zast (q := 102) D444_101 sf_6994 hg3.1 hg3.2 (by decide) (by decide) ?_
    refine im_iinc (q := 105) (i := 1) (L' := [some (.ref 6952), some (vI (p1 + 1))]) D444_102 rfl (Nat.le_of_ble_eq_true rfl) rfl ?_
    refine im_goto (q := 108) (t := 82) D444_105 rfl ?_
    exact hP.wk ⟨rfl, rfl, trivial⟩
set_option maxRecDepth 20000 in
set_option maxHeartbeats 4000000 in
theorem b_recover_110 {g : im_g} {d : Nat} {e : im_E} {M : im_M} {K : im_K} {p1 : Int} (hd : 1 ≤ d) (hP : (im_i32 p1) ∧ ((p1 = 0 → K (.inl (some (vI (M 6952 178)))) e (im_u (im_u M 6952 19 (-1)) 6952 20 (-1))) ∧ (¬ p1 = 0 → im_T g (d - 1) 445 0 [some (.ref 6952), none, none, none, none, none, none, none, none, none] [] e M (im_ri (fun x5 e_ M4 => e = e_ ∧ im_T g d 444 110 [some (.ref 6952), some (vI x5)] [] e M4 K))))) : im_T g d 444 110 [some (.ref 6952), some (vI p1)] [] e M K := by
  refine im_ld (q := 111) (i := 1) D444_110 rfl rfl rfl ?_
  obtain ⟨hg1, hP⟩ := hP
  refine im_ifc (q := 114) (t := 122) D444_111 rfl hg1 (fun hc2 => ?_) (fun hc2 => ?_)
  · replace hP := hP.1 hc2
    refine im_ld (q := 123) (i := 0) D444_122 rfl rfl rfl ?_
    refine im_iconst (q := 124) D444_123 ?_
    refine im_pfI (q := 127) D444_124 (im_fl cn_444 fl_12_403) sf_6952 rfl rfl ti_12_19 (by decide) ?_
    refine im_ld (q := 128) (i := 0) D444_127 rfl rfl rfl ?_
    refine im_iconst (q := 129) D444_128 ?_
    refine im_pfI (q := 132) D444_129 (im_fl cn_444 fl_12_406) sf_6952 rfl rfl ti_12_20 (by decide) ?_
    refine im_ld (q := 133) (i := 0) D444_132 rfl rfl rfl ?_
    refine im_rng (j := 178) sf_6952 (by decide) (by decide) (fun hr3 => ?_)
    refine im_gfI (q := 136) D444_133 (im_fl cn_444 fl_12_1154) sf_6952 rfl rfl tI_12_178 ((im_rdk _ _ _ (by decide)).trans (im_rdk _ _ _ (by decide))) ?_
    exact im_iret (q := 137) D444_136 rfl hP
  · replace hP := hP.2 hc2
    refine im_ld (q := 115) (i := 0) D444_114 rfl rfl rfl ?_
    refine im_callV (q := 118) (kd := 1) (y := 445) (n := 0) (ci := 12) (a := 6952) (vs := [.ref 6952]) (r := []) (L2 := [some (.ref 6952), none, none, none, none, none, none, none, none, none]) D444_115 (im_cal cn_444 cl_12_1175) (Or.inl rfl) rfl sf_6952 rfl rfl rfl rfl hd ⟨rfl, trivial⟩ ?_
    refine hP.mono ?_
    rintro _ e6 M4 ⟨x5, rfl, rfl, hP⟩
    refine im_bkS ?_
    refine im_st1 (q := 119) (i := 1) (L' := [some (.ref 6952), some (vI x5)]) D444_118 (Or.inl ⟨_, rfl, rfl⟩) (Nat.le_of_ble_eq_true rfl) rfl ?_
    refine im_goto (q := 122) (t := 110) D444_119 rfl ?_
    exact hP.wk ⟨rfl, rfl, trivial⟩
set_option maxRecDepth 20000 in
set_option maxHeartbeats 4000000 in
theorem b_redoRecord_0 {g : im_g} {d : Nat} {e : im_E} {M : im_M} {K : im_K} (hd : 1 ≤ d) (hP : im_T g (d - 1) 446 0 [some (.ref 6952), some (vI (M 6952 177)), none, none, none, none, none, none] [] e M (im_ri (fun x3 e_ M2 => e = e_ ∧ (im_i32 x3) ∧ ((¬ x3 = 0 → (0 ≤ (M2 6952 177) ∧ (M2 6952 177) < 16384) ∧ (0 ≤ ((M2 6952 177) + 1) ∧ ((M2 6952 177) + 1) < 16384) ∧ (0 ≤ ((M2 6952 177) + 2) ∧ ((M2 6952 177) + 2) < 16384) ∧ im_T g (d - 1) 447 0 [some (vI (M2 7080 ((M2 6952 177) + 2)))] [] e M2 (im_ri (fun x16 e_ M15 => e = e_ ∧ (im_i32 (((xior (xishl (M2 7080 (M2 6952 177)) 8) (M2 7080 ((M2 6952 177) + 1))) - 7) - (8 * x16))) ∧ im_T g d 445 71 [some (.ref 6952), some (vI (xior (xishl (M2 7080 (M2 6952 177)) 8) (M2 7080 ((M2 6952 177) + 1)))), some (vI (M2 7080 ((M2 6952 177) + 2))), some (vI x16), some (vI 0), none, none, none, none, none] [] e (im_u M15 6952 13 (((xior (xishl (M2 7080 (M2 6952 177)) 8) (M2 7080 ((M2 6952 177) + 1))) - 7) - (8 * x16))) K))) ∧ (x3 = 0 → K (.inl (some (vI 0))) e M2))))) : im_T g d 445 0 [some (.ref 6952), none, none, none, none, none, none, none, none, none] [] e M K := by
  refine im_ld (q := 1) (i := 0) D445_0 rfl rfl rfl ?_
  refine im_ld (q := 2) (i := 0) D445_1 rfl rfl rfl ?_
  refine im_rng (j := 177) sf_6952 (by decide) (by decide) (fun hr1 => ?_)
  refine im_gfI (q := 5) D445_2 (im_fl cn_445 fl_12_1140) sf_6952 rfl rfl tI_12_177 rfl ?_
  refine im_callV (q := 8) (kd := 1) (y := 446) (n := 1) (ci := 12) (a := 6952) (vs := [.ref 6952, vI (M 6952 177)]) (r := []) (L2 := [some (.ref 6952), some (vI (M 6952 177)), none, none, none, none, none, none]) D445_5 (im_cal cn_445 cl_12_1165) (Or.inl rfl) rfl sf_6952 rfl rfl rfl rfl hd ⟨rfl, rfl, trivial⟩ ?_
  refine hP.mono ?_
  rintro _ e19 M2 ⟨x3, rfl, rfl, hP⟩
  refine im_bkS ?_
  obtain ⟨hg4, hP⟩ := hP
  refine im_ifc (q := 11) (t := 13) D445_8 rfl hg4 (fun hc5 => ?_) (fun hc5 => ?_)
  · replace hP := hP.1 hc5
    refine im_ld (q := 14) (i := 0) D445_13 rfl rfl rfl ?_
    refine im_gfR (q := 17) (b := 7080) D445_14 (im_fl cn_445 fl_12_396) sf_6952 rfl rfl tR_12_176 rf_6952_176 ?_
    refine im_ld (q := 18) (i := 0) D445_17 rfl rfl rfl ?_
    refine im_rng (j := 177) sf_6952 (by decide) (by decide) (fun hr6 => ?_)
    refine im_gfI (q := 21) D445_18 (im_fl cn_445 fl_12_1140) sf_6952 rfl rfl tI_12_177 rfl ?_
    obtain ⟨hg7, hP⟩ := hP
    refine im_rng (j := (M2 6952 177)) sf_7080 hg7.1 hg7.2 (fun hr8 => ?_)
    refine im_iald (q := 22) D445_21 sf_7080 hg7.1 hg7.2 (by decide) rfl ?_
    refine im_bipush (q := 24) D445_22 rfl ?_
    refine im_ishl (q := 25) D445_24 ?_
    refine im_ld (q := 26) (i := 0) D445_25 rfl rfl rfl ?_
    refine im_gfR (q := 29) (b := 7080) D445_26 (im_fl cn_445 fl_12_396) sf_6952 rfl rfl tR_12_176 rf_6952_176 ?_
    refine im_ld (q := 30) (i := 0) D445_29 rfl rfl rfl ?_
    refine im_gfI (q := 33) D445_30 (im_fl cn_445 fl_12_1140) sf_6952 rfl rfl tI_12_177 rfl ?_
    refine im_iconst (q := 34) D445_33 ?_
    refine im_iadd (q := 35) D445_34 ?_
    obtain ⟨hg10, hP⟩ := hP
    refine im_rng (j := ((M2 6952 177) + 1)) sf_7080 hg10.1 hg10.2 (fun hr11 => ?_)
    refine im_iald (q := 36) D445_35 sf_7080 hg10.1 hg10.2 (by decide) rfl ?_
    refine im_ior (q := 37) D445_36 ?_
    refine im_st1 (q := 38) (i := 1) (L' := [some (.ref 6952), some (vI (xior (xishl (M2 7080 (M2 6952 177)) 8) (M2 7080 ((M2 6952 177) + 1)))), none, none, none, none, none, none, none, none]) D445_37 (Or.inl ⟨_, rfl, rfl⟩) (Nat.le_of_ble_eq_true rfl) rfl ?_
    refine im_ld (q := 39) (i := 0) D445_38 rfl rfl rfl ?_
    refine im_gfR (q := 42) (b := 7080) D445_39 (im_fl cn_445 fl_12_396) sf_6952 rfl rfl tR_12_176 rf_6952_176 ?_
    refine im_ld (q := 43) (i := 0) D445_42 rfl rfl rfl ?_
    refine im_gfI (q := 46) D445_43 (im_fl cn_445 fl_12_1140) sf_6952 rfl rfl tI_12_177 rfl ?_
    refine im_iconst (q := 47) D445_46 ?_
    refine im_iadd (q := 48) D445_47 ?_
    obtain ⟨hg13, hP⟩ := hP
    refine im_rng (j := ((M2 6952 177) + 2)) sf_7080 hg13.1 hg13.2 (fun hr14 => ?_)
    refine im_iald (q := 49) D445_48 sf_7080 hg13.1 hg13.2 (by decide) rfl ?_
    refine im_st1 (q := 50) (i := 2) (L' := [some (.ref 6952), some (vI (xior (xishl (M2 7080 (M2 6952 177)) 8) (M2 7080 ((M2 6952 177) + 1)))), some (vI (M2 7080 ((M2 6952 177) + 2))), none, none, none, none, none, none, none]) D445_49 (Or.inl ⟨_, rfl, rfl⟩) (Nat.le_of_ble_eq_true rfl) rfl ?_
    refine im_ld (q := 51) (i := 2) D445_50 rfl rfl rfl ?_
    refine im_callS (q := 54) (kd := 0) (y := 447) (n := 1) (z := 12) (vs := [vI (M2 7080 ((M2 6952 177) + 2))]) (r := []) (L2 := [some (vI (M2 7080 ((M2 6952 177) + 2)))]) D445_51 rfl (im_cal cn_445 cl_12_1159) (Or.inl rfl) rfl rfl rfl rfl rfl hd ⟨rfl, trivial⟩ ?_
    refine hP.mono ?_
    rintro _ e18 M15 ⟨x16, rfl, rfl, hP⟩
    refine im_bkS ?_
    refine im_st1 (q := 55) (i := 3) (L' := [some (.ref 6952), some (vI (xior (xishl (M2 7080 (M2 6952 177)) 8) (M2 7080 ((M2 6952 177) + 1)))), some (vI (M2 7080 ((M2 6952 177) + 2))), some (vI x16), none, none, none, none, none, none]) D445_54 (Or.inl ⟨_, rfl, rfl⟩) (Nat.le_of_ble_eq_true rfl) rfl ?_
    refine im_ld (q := 56) (i := 0) D445_55 rfl rfl rfl ?_
    refine im_ld (q := 57) (i := 1) D445_56 rfl rfl rfl ?_
    refine im_bipush (q := 59) D445_57 rfl ?_
    refine im_isub (q := 60) D445_59 ?_
    refine im_bipush (q := 62) D445_60 rfl ?_
    refine im_ld (q := 63) (i := 3) D445_62 rfl rfl rfl ?_
    refine im_imul (q := 64) D445_63 ?_
    refine im_isub (q := 65) D445_64 ?_
    obtain ⟨hg17, hP⟩ := hP
    refine im_pfI (q := 68) D445_65 (im_fl cn_445 fl_12_604) sf_6952 rfl rfl ti_12_13 hg17 ?_
    refine im_iconst (q := 69) D445_68 ?_
    refine im_st1 (q := 71) (i := 4) (L' := [some (.ref 6952), some (vI (xior (xishl (M2 7080 (M2 6952 177)) 8) (M2 7080 ((M2 6952 177) + 1)))), some (vI (M2 7080 ((M2 6952 177) + 2))), some (vI x16), some (vI 0), none, none, none, none, none]) D445_69 (Or.inr rfl) (Nat.le_of_ble_eq_true rfl) rfl ?_
    exact hP.wk ⟨rfl, rfl, rfl, rfl, rfl, trivial⟩
  · replace hP := hP.2 (Decidable.not_not.mp hc5)
    refine im_iconst (q := 12) D445_11 ?_
    exact im_zret (q := 13) D445_12 rfl (by decide) hP
set_option maxRecDepth 20000 in
set_option maxHeartbeats 4000000 in
theorem b_redoRecord_71 {g : im_g} {d : Nat} {e : im_E} {M : im_M} {K : im_K} {p1 p2 p3 p4 : Int} (hd : 1 ≤ d) (hP : (im_i32 p4) ∧ (((M 6952 13) ≤ p4 → (im_i32 p3) ∧ ((p3 ≤ 0 → ((p3 ≤ 1 → ((p3 ≤ 2 → im_T g (d - 1) 449 0 [some (.ref 6952), some (vI p2), some (vL 0), none, some (vL 0), none, some (vL 0), none, none, none] [] e M (im_ri (fun x15 e_ M14 => e = e_ ∧ (im_i32 x15) ∧ ((¬ x15 = 0 → (im_i32 ((M14 6952 177) + p1)) ∧ (im_i32 ((M14 6952 178) + 1)) ∧ K (.inl (some (vI 1))) e (im_u (im_u M14 6952 177 ((M14 6952 177) + p1)) 6952 178 ((M14 6952 178) + 1))) ∧ (x15 = 0 → K (.inl (some (vI 0))) e M14))))) ∧ (2 < p3 → im_T g (d - 1) 448 0 [some (.ref 6952), some (vI ((M 6952 177) + 19)), none, none, none] [] e M (im_rl (fun x24 e_ M23 => e = e_ ∧ im_T g (d - 1) 449 0 [some (.ref 6952), some (vI p2), some (vL 0), none, some (vL 0), none, some (vL x24), none, none, none] [] e M23 (im_ri (fun x26 e_ M25 => e = e_ ∧ (im_i32 x26) ∧ ((¬ x26 = 0 → (im_i32 ((M25 6952 177) + p1)) ∧ (im_i32 ((M25 6952 178) + 1)) ∧ K (.inl (some (vI 1))) e (im_u (im_u M25 6952 177 ((M25 6952 177) + p1)) 6952 178 ((M25 6952 178) + 1))) ∧ (x26 = 0 → K (.inl (some (vI 0))) e M25))))))))) ∧ (1 < p3 → im_T g (d - 1) 448 0 [some (.ref 6952), some (vI ((M 6952 177) + 11)), none, none, none] [] e M (im_rl (fun x36 e_ M35 => e = e_ ∧ ((p3 ≤ 2 → im_T g (d - 1) 449 0 [some (.ref 6952), some (vI p2), some (vL 0), none, some (vL x36), none, some (vL 0), none, none, none] [] e M35 (im_ri (fun x40 e_ M39 => e = e_ ∧ (im_i32 x40) ∧ ((¬ x40 = 0 → (im_i32 ((M39 6952 177) + p1)) ∧ (im_i32 ((M39 6952 178) + 1)) ∧ K (.inl (some (vI 1))) e (im_u (im_u M39 6952 177 ((M39 6952 177) + p1)) 6952 178 ((M39 6952 178) + 1))) ∧ (x40 = 0 → K (.inl (some (vI 0))) e M39))))) ∧ (2 < p3 → im_T g (d - 1) 448 0 [some (.ref 6952), some (vI ((M35 6952 177) + 19)), none, none, none] [] e M35 (im_rl (fun x49 e_ M48 => e = e_ ∧ im_T g (d - 1) 449 0 [some (.ref 6952), some (vI p2), some (vL 0), none, some (vL x36), none, some (vL x49), none, none, none] [] e M48 (im_ri (fun x51 e_ M50 => e = e_ ∧ (im_i32 x51) ∧ ((¬ x51 = 0 → (im_i32 ((M50 6952 177) + p1)) ∧ (im_i32 ((M50 6952 178) + 1)) ∧ K (.inl (some (vI 1))) e (im_u (im_u M50 6952 177 ((M50 6952 177) + p1)) 6952 178 ((M50 6952 178) + 1))) ∧ (x51 = 0 → K (.inl (some (vI 0))) e M50))))))))))))) ∧ (0 < p3 → im_T g (d - 1) 448 0 [some (.ref 6952), some (vI ((M 6952 177) + 3)), none, none, none] [] e M (im_rl (fun x62 e_ M61 => e = e_ ∧ ((p3 ≤ 1 → ((p3 ≤ 2 → im_T g (d - 1) 449 0 [some (.ref 6952), some (vI p2), some (vL x62), none, some (vL 0), none, some (vL 0), none, none, none] [] e M61 (im_ri (fun x68 e_ M67 => e = e_ ∧ (im_i32 x68) ∧ ((¬ x68 = 0 → (im_i32 ((M67 6952 177) + p1)) ∧ (im_i32 ((M67 6952 178) + 1)) ∧ K (.inl (some (vI 1))) e (im_u (im_u M67 6952 177 ((M67 6952 177) + p1)) 6952 178 ((M67 6952 178) + 1))) ∧ (x68 = 0 → K (.inl (some (vI 0))) e M67))))) ∧ (2 < p3 → im_T g (d - 1) 448 0 [some (.ref 6952), some (vI ((M61 6952 177) + 19)), none, none, none] [] e M61 (im_rl (fun x77 e_ M76 => e = e_ ∧ im_T g (d - 1) 449 0 [some (.ref 6952), some (vI p2), some (vL x62), none, some (vL 0), none, some (vL x77), none, none, none] [] e M76 (im_ri (fun x79 e_ M78 => e = e_ ∧ (im_i32 x79) ∧ ((¬ x79 = 0 → (im_i32 ((M78 6952 177) + p1)) ∧ (im_i32 ((M78 6952 178) + 1)) ∧ K (.inl (some (vI 1))) e (im_u (im_u M78 6952 177 ((M78 6952 177) + p1)) 6952 178 ((M78 6952 178) + 1))) ∧ (x79 = 0 → K (.inl (some (vI 0))) e M78))))))))) ∧ (1 < p3 → im_T g (d - 1) 448 0 [some (.ref 6952), some (vI ((M61 6952 177) + 11)), none, none, none] [] e M61 (im_rl (fun x89 e_ M88 => e = e_ ∧ ((p3 ≤ 2 → im_T g (d - 1) 449 0 [some (.ref 6952), some (vI p2), some (vL x62), none, some (vL x89), none, some (vL 0), none, none, none] [] e M88 (im_ri (fun x93 e_ M92 => e = e_ ∧ (im_i32 x93) ∧ ((¬ x93 = 0 → (im_i32 ((M92 6952 177) + p1)) ∧ (im_i32 ((M92 6952 178) + 1)) ∧ K (.inl (some (vI 1))) e (im_u (im_u M92 6952 177 ((M92 6952 177) + p1)) 6952 178 ((M92 6952 178) + 1))) ∧ (x93 = 0 → K (.inl (some (vI 0))) e M92))))) ∧ (2 < p3 → im_T g (d - 1) 448 0 [some (.ref 6952), some (vI ((M88 6952 177) + 19)), none, none, none] [] e M88 (im_rl (fun x102 e_ M101 => e = e_ ∧ im_T g (d - 1) 449 0 [some (.ref 6952), some (vI p2), some (vL x62), none, some (vL x89), none, some (vL x102), none, none, none] [] e M101 (im_ri (fun x104 e_ M103 => e = e_ ∧ (im_i32 x104) ∧ ((¬ x104 = 0 → (im_i32 ((M103 6952 177) + p1)) ∧ (im_i32 ((M103 6952 178) + 1)) ∧ K (.inl (some (vI 1))) e (im_u (im_u M103 6952 177 ((M103 6952 177) + p1)) 6952 178 ((M103 6952 178) + 1))) ∧ (x104 = 0 → K (.inl (some (vI 0))) e M103))))))))))))))))) ∧ (p4 < (M 6952 13) → (0 ≤ ((((M 6952 177) + 3) + (8 * p3)) + p4) ∧ ((((M 6952 177) + 3) + (8 * p3)) + p4) < 16384) ∧ (0 ≤ p4 ∧ p4 < 16384) ∧ im_T g d 445 71 [some (.ref 6952), some (vI p1), some (vI p2), some (vI p3), some (vI (p4 + 1)), none, none, none, none, none] [] e (im_u M 6959 p4 (M 7080 ((((M 6952 177) + 3) + (8 * p3)) + p4))) K))) : im_T g d 445 71 [some (.ref 6952), some (vI p1), some (vI p2), some (vI p3), some (vI p4), none, none, none, none, none] [] e M K := by
  refine im_ld (q := 73) (i := 4) D445_71 rfl rfl rfl ?_
  refine im_ld (q := 74) (i := 0) D445_73 rfl rfl rfl ?_
  refine im_rng (j := 13) sf_6952 (by decide) (by decide) (fun hr1 => ?_)
  refine im_gfI (q := 77) D445_74 (im_fl cn_445 fl_12_604) sf_6952 rfl rfl tI_12_13 rfl ?_
  obtain ⟨hg2, hP⟩ := hP
  refine im_icmp (q := 80) (t := 112) D445_77 rfl hg2 hr1 (fun hc3 => ?_) (fun hc3 => ?_)
  · replace hP := hP.1 hc3
    refine im_ld (q := 113) (i := 3) D445_112 rfl rfl rfl ?_
    obtain ⟨hg4, hP⟩ := hP
    refine im_ifc (q := 116) (t := 129) D445_113 rfl hg4 (fun hc5 => ?_) (fun hc5 => ?_)
    · replace hP := hP.1 hc5
      refine im_lconst (q := 130) (z := 0) D445_129 rfl ?_
      refine im_st2 (q := 132) (i := 4) (L' := [some (.ref 6952), some (vI p1), some (vI p2), some (vI p3), some (vL 0), none, none, none, none, none]) D445_130 (Or.inr rfl) (Nat.le_of_ble_eq_true rfl) rfl ?_
      refine im_ld (q := 133) (i := 3) D445_132 rfl rfl rfl ?_
      refine im_iconst (q := 134) D445_133 ?_
      refine im_icmp (q := 137) (t := 151) D445_134 rfl hg4 (by decide) (fun hc10 => ?_) (fun hc10 => ?_)
      · replace hP := hP.1 hc10
        refine im_lconst (q := 152) (z := 0) D445_151 rfl ?_
        refine im_st2 (q := 154) (i := 6) (L' := [some (.ref 6952), some (vI p1), some (vI p2), some (vI p3), some (vL 0), none, some (vL 0), none, none, none]) D445_152 (Or.inr rfl) (Nat.le_of_ble_eq_true rfl) rfl ?_
        refine im_ld (q := 155) (i := 3) D445_154 rfl rfl rfl ?_
        refine im_iconst (q := 156) D445_155 ?_
        refine im_icmp (q := 159) (t := 173) D445_156 rfl hg4 (by decide) (fun hc12 => ?_) (fun hc12 => ?_)
        · replace hP := hP.1 hc12
          refine im_lconst (q := 174) (z := 0) D445_173 rfl ?_
          refine im_st2 (q := 176) (i := 8) (L' := [some (.ref 6952), some (vI p1), some (vI p2), some (vI p3), some (vL 0), none, some (vL 0), none, some (vL 0), none]) D445_174 (Or.inr rfl) (Nat.le_of_ble_eq_true rfl) rfl ?_
          refine im_ld (q := 177) (i := 0) D445_176 rfl rfl rfl ?_
          refine im_ld (q := 178) (i := 2) D445_177 rfl rfl rfl ?_
          refine im_ld (q := 180) (i := 4) D445_178 rfl rfl rfl ?_
          refine im_ld (q := 182) (i := 6) D445_180 rfl rfl rfl ?_
          refine im_ld (q := 184) (i := 8) D445_182 rfl rfl rfl ?_
          refine im_callV (q := 187) (kd := 1) (y := 449) (n := 4) (ci := 12) (a := 6952) (vs := [.ref 6952, vI p2, vL 0, vL 0, vL 0]) (r := []) (L2 := [some (.ref 6952), some (vI p2), some (vL 0), none, some (vL 0), none, some (vL 0), none, none, none]) D445_184 (im_cal cn_445 cl_12_1171) (Or.inl rfl) rfl sf_6952 rfl rfl rfl rfl hd ⟨rfl, rfl, rfl, rfl, rfl, trivial⟩ ?_
          refine hP.mono ?_
          rintro _ e22 M14 ⟨x15, rfl, rfl, hP⟩
          refine im_bkS ?_
          obtain ⟨hg16, hP⟩ := hP
          refine im_ifc (q := 190) (t := 192) D445_187 rfl hg16 (fun hc17 => ?_) (fun hc17 => ?_)
          · replace hP := hP.1 hc17
            refine im_ld (q := 193) (i := 0) D445_192 rfl rfl rfl ?_
            refine im_dup (q := 194) D445_193 rfl ?_
            refine im_rng (j := 177) sf_6952 (by decide) (by decide) (fun hr18 => ?_)
            refine im_gfI (q := 197) D445_194 (im_fl cn_445 fl_12_1140) sf_6952 rfl rfl tI_12_177 rfl ?_
            refine im_ld (q := 198) (i := 1) D445_197 rfl rfl rfl ?_
            refine im_iadd (q := 199) D445_198 ?_
            obtain ⟨hg19, hP⟩ := hP
            refine im_pfI (q := 202) D445_199 (im_fl cn_445 fl_12_1140) sf_6952 rfl rfl ti_12_177 hg19 ?_
            refine im_ld (q := 203) (i := 0) D445_202 rfl rfl rfl ?_
            refine im_dup (q := 204) D445_203 rfl ?_
            refine im_rng (j := 178) sf_6952 (by decide) (by decide) (fun hr20 => ?_)
            refine im_gfI (q := 207) D445_204 (im_fl cn_445 fl_12_1154) sf_6952 rfl rfl tI_12_178 (im_rdk _ _ _ (by decide)) ?_
            refine im_iconst (q := 208) D445_207 ?_
            refine im_iadd (q := 209) D445_208 ?_
            obtain ⟨hg21, hP⟩ := hP
            refine im_pfI (q := 212) D445_209 (im_fl cn_445 fl_12_1154) sf_6952 rfl rfl ti_12_178 hg21 ?_
            refine im_iconst (q := 213) D445_212 ?_
            exact im_zret (q := 214) D445_213 rfl (by decide) hP
          · replace hP := hP.2 (Decidable.not_not.mp hc17)
            refine im_iconst (q := 191) D445_190 ?_
            exact im_zret (q := 192) D445_191 rfl (by decide) hP
        · replace hP := hP.2 (Int.not_le.mp hc12)
          refine im_ld (q := 160) (i := 0) D445_159 rfl rfl rfl ?_
          refine im_ld (q := 161) (i := 0) D445_160 rfl rfl rfl ?_
          refine im_rng (j := 177) sf_6952 (by decide) (by decide) (fun hr13 => ?_)
          refine im_gfI (q := 164) D445_161 (im_fl cn_445 fl_12_1140) sf_6952 rfl rfl tI_12_177 rfl ?_
          refine im_bipush (q := 166) D445_164 rfl ?_
          refine im_iadd (q := 167) D445_166 ?_
          refine im_callV (q := 170) (kd := 1) (y := 448) (n := 1) (ci := 12) (a := 6952) (vs := [.ref 6952, vI ((M 6952 177) + 19)]) (r := []) (L2 := [some (.ref 6952), some (vI ((M 6952 177) + 19)), none, none, none]) D445_167 (im_cal cn_445 cl_12_1168) (Or.inl rfl) rfl sf_6952 rfl rfl rfl rfl hd ⟨rfl, rfl, trivial⟩ ?_
          refine hP.mono ?_
          rintro _ e34 M23 ⟨x24, rfl, rfl, hP⟩
          refine im_bkS ?_
          refine im_goto (q := 173) (t := 174) D445_170 rfl ?_
          refine im_st2 (q := 176) (i := 8) (L' := [some (.ref 6952), some (vI p1), some (vI p2), some (vI p3), some (vL 0), none, some (vL 0), none, some (vL x24), none]) D445_174 (Or.inr rfl) (Nat.le_of_ble_eq_true rfl) rfl ?_
          refine im_ld (q := 177) (i := 0) D445_176 rfl rfl rfl ?_
          refine im_ld (q := 178) (i := 2) D445_177 rfl rfl rfl ?_
          refine im_ld (q := 180) (i := 4) D445_178 rfl rfl rfl ?_
          refine im_ld (q := 182) (i := 6) D445_180 rfl rfl rfl ?_
          refine im_ld (q := 184) (i := 8) D445_182 rfl rfl rfl ?_
          refine im_callV (q := 187) (kd := 1) (y := 449) (n := 4) (ci := 12) (a := 6952) (vs := [.ref 6952, vI p2, vL 0, vL 0, vL x24]) (r := []) (L2 := [some (.ref 6952), some (vI p2), some (vL 0), none, some (vL 0), none, some (vL x24), none, none, none]) D445_184 (im_cal cn_445 cl_12_1171) (Or.inl rfl) rfl sf_6952 rfl rfl rfl rfl hd ⟨rfl, rfl, rfl, rfl, rfl, trivial⟩ ?_
          refine hP.mono ?_
          rintro _ e33 M25 ⟨x26, rfl, rfl, hP⟩
          refine im_bkS ?_
          obtain ⟨hg27, hP⟩ := hP
          refine im_ifc (q := 190) (t := 192) D445_187 rfl hg27 (fun hc28 => ?_) (fun hc28 => ?_)
          · replace hP := hP.1 hc28
            refine im_ld (q := 193) (i := 0) D445_192 rfl rfl rfl ?_
            refine im_dup (q := 194) D445_193 rfl ?_
            refine im_rng (j := 177) sf_6952 (by decide) (by decide) (fun hr29 => ?_)
            refine im_gfI (q := 197) D445_194 (im_fl cn_445 fl_12_1140) sf_6952 rfl rfl tI_12_177 rfl ?_
            refine im_ld (q := 198) (i := 1) D445_197 rfl rfl rfl ?_
            refine im_iadd (q := 199) D445_198 ?_
            obtain ⟨hg30, hP⟩ := hP
            refine im_pfI (q := 202) D445_199 (im_fl cn_445 fl_12_1140) sf_6952 rfl rfl ti_12_177 hg30 ?_
            refine im_ld (q := 203) (i := 0) D445_202 rfl rfl rfl ?_
            refine im_dup (q := 204) D445_203 rfl ?_
            refine im_rng (j := 178) sf_6952 (by decide) (by decide) (fun hr31 => ?_)
            refine im_gfI (q := 207) D445_204 (im_fl cn_445 fl_12_1154) sf_6952 rfl rfl tI_12_178 (im_rdk _ _ _ (by decide)) ?_
            refine im_iconst (q := 208) D445_207 ?_
            refine im_iadd (q := 209) D445_208 ?_
            obtain ⟨hg32, hP⟩ := hP
            refine im_pfI (q := 212) D445_209 (im_fl cn_445 fl_12_1154) sf_6952 rfl rfl ti_12_178 hg32 ?_
            refine im_iconst (q := 213) D445_212 ?_
            exact im_zret (q := 214) D445_213 rfl (by decide) hP
          · replace hP := hP.2 (Decidable.not_not.mp hc28)
            refine im_iconst (q := 191) D445_190 ?_
            exact im_zret (q := 192) D445_191 rfl (by decide) hP
      · replace hP := hP.2 (Int.not_le.mp hc10)
        refine im_ld (q := 138) (i := 0) D445_137 rfl rfl rfl ?_
        refine im_ld (q := 139) (i := 0) D445_138 rfl rfl rfl ?_
        refine im_rng (j := 177) sf_6952 (by decide) (by decide) (fun hr11 => ?_)
        refine im_gfI (q := 142) D445_139 (im_fl cn_445 fl_12_1140) sf_6952 rfl rfl tI_12_177 rfl ?_
        refine im_bipush (q := 144) D445_142 rfl ?_
        refine im_iadd (q := 145) D445_144 ?_
        refine im_callV (q := 148) (kd := 1) (y := 448) (n := 1) (ci := 12) (a := 6952) (vs := [.ref 6952, vI ((M 6952 177) + 11)]) (r := []) (L2 := [some (.ref 6952), some (vI ((M 6952 177) + 11)), none, none, none]) D445_145 (im_cal cn_445 cl_12_1168) (Or.inl rfl) rfl sf_6952 rfl rfl rfl rfl hd ⟨rfl, rfl, trivial⟩ ?_
        refine hP.mono ?_
        rintro _ e60 M35 ⟨x36, rfl, rfl, hP⟩
        refine im_bkS ?_
        refine im_goto (q := 151) (t := 152) D445_148 rfl ?_
        refine im_st2 (q := 154) (i := 6) (L' := [some (.ref 6952), some (vI p1), some (vI p2), some (vI p3), some (vL 0), none, some (vL x36), none, none, none]) D445_152 (Or.inr rfl) (Nat.le_of_ble_eq_true rfl) rfl ?_
        refine im_ld (q := 155) (i := 3) D445_154 rfl rfl rfl ?_
        refine im_iconst (q := 156) D445_155 ?_
        refine im_icmp (q := 159) (t := 173) D445_156 rfl hg4 (by decide) (fun hc37 => ?_) (fun hc37 => ?_)
        · replace hP := hP.1 hc37
          refine im_lconst (q := 174) (z := 0) D445_173 rfl ?_
          refine im_st2 (q := 176) (i := 8) (L' := [some (.ref 6952), some (vI p1), some (vI p2), some (vI p3), some (vL 0), none, some (vL x36), none, some (vL 0), none]) D445_174 (Or.inr rfl) (Nat.le_of_ble_eq_true rfl) rfl ?_
          refine im_ld (q := 177) (i := 0) D445_176 rfl rfl rfl ?_
          refine im_ld (q := 178) (i := 2) D445_177 rfl rfl rfl ?_
          refine im_ld (q := 180) (i := 4) D445_178 rfl rfl rfl ?_
          refine im_ld (q := 182) (i := 6) D445_180 rfl rfl rfl ?_
          refine im_ld (q := 184) (i := 8) D445_182 rfl rfl rfl ?_
          refine im_callV (q := 187) (kd := 1) (y := 449) (n := 4) (ci := 12) (a := 6952) (vs := [.ref 6952, vI p2, vL 0, vL x36, vL 0]) (r := []) (L2 := [some (.ref 6952), some (vI p2), some (vL 0), none, some (vL x36), none, some (vL 0), none, none, none]) D445_184 (im_cal cn_445 cl_12_1171) (Or.inl rfl) rfl sf_6952 rfl rfl rfl rfl hd ⟨rfl, rfl, rfl, rfl, rfl, trivial⟩ ?_
          refine hP.mono ?_
          rintro _ e47 M39 ⟨x40, rfl, rfl, hP⟩
          refine im_bkS ?_
          obtain ⟨hg41, hP⟩ := hP
          refine im_ifc (q := 190) (t := 192) D445_187 rfl hg41 (fun hc42 => ?_) (fun hc42 => ?_)
          · replace hP := hP.1 hc42
            refine im_ld (q := 193) (i := 0) D445_192 rfl rfl rfl ?_
            refine im_dup (q := 194) D445_193 rfl ?_
            refine im_rng (j := 177) sf_6952 (by decide) (by decide) (fun hr43 => ?_)
            refine im_gfI (q := 197) D445_194 (im_fl cn_445 fl_12_1140) sf_6952 rfl rfl tI_12_177 rfl ?_
            refine im_ld (q := 198) (i := 1) D445_197 rfl rfl rfl ?_
            refine im_iadd (q := 199) D445_198 ?_
            obtain ⟨hg44, hP⟩ := hP
            refine im_pfI (q := 202) D445_199 (im_fl cn_445 fl_12_1140) sf_6952 rfl rfl ti_12_177 hg44 ?_
            refine im_ld (q := 203) (i := 0) D445_202 rfl rfl rfl ?_
            refine im_dup (q := 204) D445_203 rfl ?_
            refine im_rng (j := 178) sf_6952 (by decide) (by decide) (fun hr45 => ?_)
            refine im_gfI (q := 207) D445_204 (im_fl cn_445 fl_12_1154) sf_6952 rfl rfl tI_12_178 (im_rdk _ _ _ (by decide)) ?_
            refine im_iconst (q := 208) D445_207 ?_
            refine im_iadd (q := 209) D445_208 ?_
            obtain ⟨hg46, hP⟩ := hP
            refine im_pfI (q := 212) D445_209 (im_fl cn_445 fl_12_1154) sf_6952 rfl rfl ti_12_178 hg46 ?_
            refine im_iconst (q := 213) D445_212 ?_
            exact im_zret (q := 214) D445_213 rfl (by decide) hP
          · replace hP := hP.2 (Decidable.not_not.mp hc42)
            refine im_iconst (q := 191) D445_190 ?_
            exact im_zret (q := 192) D445_191 rfl (by decide) hP
        · replace hP := hP.2 (Int.not_le.mp hc37)
          refine im_ld (q := 160) (i := 0) D445_159 rfl rfl rfl ?_
          refine im_ld (q := 161) (i := 0) D445_160 rfl rfl rfl ?_
          refine im_rng (j := 177) sf_6952 (by decide) (by decide) (fun hr38 => ?_)
          refine im_gfI (q := 164) D445_161 (im_fl cn_445 fl_12_1140) sf_6952 rfl rfl tI_12_177 rfl ?_
          refine im_bipush (q := 166) D445_164 rfl ?_
          refine im_iadd (q := 167) D445_166 ?_
          refine im_callV (q := 170) (kd := 1) (y := 448) (n := 1) (ci := 12) (a := 6952) (vs := [.ref 6952, vI ((M35 6952 177) + 19)]) (r := []) (L2 := [some (.ref 6952), some (vI ((M35 6952 177) + 19)), none, none, none]) D445_167 (im_cal cn_445 cl_12_1168) (Or.inl rfl) rfl sf_6952 rfl rfl rfl rfl hd ⟨rfl, rfl, trivial⟩ ?_
          refine hP.mono ?_
          rintro _ e59 M48 ⟨x49, rfl, rfl, hP⟩
          refine im_bkS ?_
          refine im_goto (q := 173) (t := 174) D445_170 rfl ?_
          refine im_st2 (q := 176) (i := 8) (L' := [some (.ref 6952), some (vI p1), some (vI p2), some (vI p3), some (vL 0), none, some (vL x36), none, some (vL x49), none]) D445_174 (Or.inr rfl) (Nat.le_of_ble_eq_true rfl) rfl ?_
          refine im_ld (q := 177) (i := 0) D445_176 rfl rfl rfl ?_
          refine im_ld (q := 178) (i := 2) D445_177 rfl rfl rfl ?_
          refine im_ld (q := 180) (i := 4) D445_178 rfl rfl rfl ?_
          refine im_ld (q := 182) (i := 6) D445_180 rfl rfl rfl ?_
          refine im_ld (q := 184) (i := 8) D445_182 rfl rfl rfl ?_
          refine im_callV (q := 187) (kd := 1) (y := 449) (n := 4) (ci := 12) (a := 6952) (vs := [.ref 6952, vI p2, vL 0, vL x36, vL x49]) (r := []) (L2 := [some (.ref 6952), some (vI p2), some (vL 0), none, some (vL x36), none, some (vL x49), none, none, none]) D445_184 (im_cal cn_445 cl_12_1171) (Or.inl rfl) rfl sf_6952 rfl rfl rfl rfl hd ⟨rfl, rfl, rfl, rfl, rfl, trivial⟩ ?_
          refine hP.mono ?_
          rintro _ e58 M50 ⟨x51, rfl, rfl, hP⟩
          refine im_bkS ?_
          obtain ⟨hg52, hP⟩ := hP
          refine im_ifc (q := 190) (t := 192) D445_187 rfl hg52 (fun hc53 => ?_) (fun hc53 => ?_)
          · replace hP := hP.1 hc53
            refine im_ld (q := 193) (i := 0) D445_192 rfl rfl rfl ?_
            refine im_dup (q := 194) D445_193 rfl ?_
            refine im_rng (j := 177) sf_6952 (by decide) (by decide) (fun hr54 => ?_)
            refine im_gfI (q := 197) D445_194 (im_fl cn_445 fl_12_1140) sf_6952 rfl rfl tI_12_177 rfl ?_
            refine im_ld (q := 198) (i := 1) D445_197 rfl rfl rfl ?_
            refine im_iadd (q := 199) D445_198 ?_
            obtain ⟨hg55, hP⟩ := hP
            refine im_pfI (q := 202) D445_199 (im_fl cn_445 fl_12_1140) sf_6952 rfl rfl ti_12_177 hg55 ?_
            refine im_ld (q := 203) (i := 0) D445_202 rfl rfl rfl ?_
            refine im_dup (q := 204) D445_203 rfl ?_
            refine im_rng (j := 178) sf_6952 (by decide) (by decide) (fun hr56 => ?_)
            refine im_gfI (q := 207) D445_204 (im_fl cn_445 fl_12_1154) sf_6952 rfl rfl tI_12_178 (im_rdk _ _ _ (by decide)) ?_
            refine im_iconst (q := 208) D445_207 ?_
            refine im_iadd (q := 209) D445_208 ?_
            obtain ⟨hg57, hP⟩ := hP
            refine im_pfI (q := 212) D445_209 (im_fl cn_445 fl_12_1154) sf_6952 rfl rfl ti_12_178 hg57 ?_
            refine im_iconst (q := 213) D445_212 ?_
            exact im_zret (q := 214) D445_213 rfl (by decide) hP
          · replace hP := hP.2 (Decidable.not_not.mp hc53)
            refine im_iconst (q := 191) D445_190 ?_
            exact im_zret (q := 192) D445_191 rfl (by decide) hP
    · replace hP := hP.2 (Int.not_le.mp hc5)
      refine im_ld (q := 117) (i := 0) D445_116 rfl rfl rfl ?_
      refine im_ld (q := 118) (i := 0) D445_117 rfl rfl rfl ?_
      refine im_rng (j := 177) sf_6952 (by decide) (by decide) (fun hr6 => ?_)
      refine im_gfI (q := 121) D445_118 (im_fl cn_445 fl_12_1140) sf_6952 rfl rfl tI_12_177 rfl ?_
      refine im_iconst (q := 122) D445_121 ?_
      refine im_iadd (q := 123) D445_122 ?_
      refine im_callV (q := 126) (kd := 1) (y := 448) (n := 1) (ci := 12) (a := 6952) (vs := [.ref 6952, vI ((M 6952 177) + 3)]) (r := []) (L2 := [some (.ref 6952), some (vI ((M 6952 177) + 3)), none, none, none]) D445_123 (im_cal cn_445 cl_12_1168) (Or.inl rfl) rfl sf_6952 rfl rfl rfl rfl hd ⟨rfl, rfl, trivial⟩ ?_
      refine hP.mono ?_
      rintro _ e114 M61 ⟨x62, rfl, rfl, hP⟩
      refine im_bkS ?_
      refine im_goto (q := 129) (t := 130) D445_126 rfl ?_
      refine im_st2 (q := 132) (i := 4) (L' := [some (.ref 6952), some (vI p1), some (vI p2), some (vI p3), some (vL x62), none, none, none, none, none]) D445_130 (Or.inr rfl) (Nat.le_of_ble_eq_true rfl) rfl ?_
      refine im_ld (q := 133) (i := 3) D445_132 rfl rfl rfl ?_
      refine im_iconst (q := 134) D445_133 ?_
      refine im_icmp (q := 137) (t := 151) D445_134 rfl hg4 (by decide) (fun hc63 => ?_) (fun hc63 => ?_)
      · replace hP := hP.1 hc63
        refine im_lconst (q := 152) (z := 0) D445_151 rfl ?_
        refine im_st2 (q := 154) (i := 6) (L' := [some (.ref 6952), some (vI p1), some (vI p2), some (vI p3), some (vL x62), none, some (vL 0), none, none, none]) D445_152 (Or.inr rfl) (Nat.le_of_ble_eq_true rfl) rfl ?_
        refine im_ld (q := 155) (i := 3) D445_154 rfl rfl rfl ?_
        refine im_iconst (q := 156) D445_155 ?_
        refine im_icmp (q := 159) (t := 173) D445_156 rfl hg4 (by decide) (fun hc65 => ?_) (fun hc65 => ?_)
        · replace hP := hP.1 hc65
          refine im_lconst (q := 174) (z := 0) D445_173 rfl ?_
          refine im_st2 (q := 176) (i := 8) (L' := [some (.ref 6952), some (vI p1), some (vI p2), some (vI p3), some (vL x62), none, some (vL 0), none, some (vL 0), none]) D445_174 (Or.inr rfl) (Nat.le_of_ble_eq_true rfl) rfl ?_
          refine im_ld (q := 177) (i := 0) D445_176 rfl rfl rfl ?_
          refine im_ld (q := 178) (i := 2) D445_177 rfl rfl rfl ?_
          refine im_ld (q := 180) (i := 4) D445_178 rfl rfl rfl ?_
          refine im_ld (q := 182) (i := 6) D445_180 rfl rfl rfl ?_
          refine im_ld (q := 184) (i := 8) D445_182 rfl rfl rfl ?_
          refine im_callV (q := 187) (kd := 1) (y := 449) (n := 4) (ci := 12) (a := 6952) (vs := [.ref 6952, vI p2, vL x62, vL 0, vL 0]) (r := []) (L2 := [some (.ref 6952), some (vI p2), some (vL x62), none, some (vL 0), none, some (vL 0), none, none, none]) D445_184 (im_cal cn_445 cl_12_1171) (Or.inl rfl) rfl sf_6952 rfl rfl rfl rfl hd ⟨rfl, rfl, rfl, rfl, rfl, trivial⟩ ?_
          refine hP.mono ?_
          rintro _ e75 M67 ⟨x68, rfl, rfl, hP⟩
          refine im_bkS ?_
          obtain ⟨hg69, hP⟩ := hP
          refine im_ifc (q := 190) (t := 192) D445_187 rfl hg69 (fun hc70 => ?_) (fun hc70 => ?_)
          · replace hP := hP.1 hc70
            refine im_ld (q := 193) (i := 0) D445_192 rfl rfl rfl ?_
            refine im_dup (q := 194) D445_193 rfl ?_
            refine im_rng (j := 177) sf_6952 (by decide) (by decide) (fun hr71 => ?_)
            refine im_gfI (q := 197) D445_194 (im_fl cn_445 fl_12_1140) sf_6952 rfl rfl tI_12_177 rfl ?_
            refine im_ld (q := 198) (i := 1) D445_197 rfl rfl rfl ?_
            refine im_iadd (q := 199) D445_198 ?_
            obtain ⟨hg72, hP⟩ := hP
            refine im_pfI (q := 202) D445_199 (im_fl cn_445 fl_12_1140) sf_6952 rfl rfl ti_12_177 hg72 ?_
            refine im_ld (q := 203) (i := 0) D445_202 rfl rfl rfl ?_
            refine im_dup (q := 204) D445_203 rfl ?_
            refine im_rng (j := 178) sf_6952 (by decide) (by decide) (fun hr73 => ?_)
            refine im_gfI (q := 207) D445_204 (im_fl cn_445 fl_12_1154) sf_6952 rfl rfl tI_12_178 (im_rdk _ _ _ (by decide)) ?_
            refine im_iconst (q := 208) D445_207 ?_
            refine im_iadd (q := 209) D445_208 ?_
            obtain ⟨hg74, hP⟩ := hP
            refine im_pfI (q := 212) D445_209 (im_fl cn_445 fl_12_1154) sf_6952 rfl rfl ti_12_178 hg74 ?_
            refine im_iconst (q := 213) D445_212 ?_
            exact im_zret (q := 214) D445_213 rfl (by decide) hP
          · replace hP := hP.2 (Decidable.not_not.mp hc70)
            refine im_iconst (q := 191) D445_190 ?_
            exact im_zret (q := 192) D445_191 rfl (by decide) hP
        · replace hP := hP.2 (Int.not_le.mp hc65)
          refine im_ld (q := 160) (i := 0) D445_159 rfl rfl rfl ?_
          refine im_ld (q := 161) (i := 0) D445_160 rfl rfl rfl ?_
          refine im_rng (j := 177) sf_6952 (by decide) (by decide) (fun hr66 => ?_)
          refine im_gfI (q := 164) D445_161 (im_fl cn_445 fl_12_1140) sf_6952 rfl rfl tI_12_177 rfl ?_
          refine im_bipush (q := 166) D445_164 rfl ?_
          refine im_iadd (q := 167) D445_166 ?_
          refine im_callV (q := 170) (kd := 1) (y := 448) (n := 1) (ci := 12) (a := 6952) (vs := [.ref 6952, vI ((M61 6952 177) + 19)]) (r := []) (L2 := [some (.ref 6952), some (vI ((M61 6952 177) + 19)), none, none, none]) D445_167 (im_cal cn_445 cl_12_1168) (Or.inl rfl) rfl sf_6952 rfl rfl rfl rfl hd ⟨rfl, rfl, trivial⟩ ?_
          refine hP.mono ?_
          rintro _ e87 M76 ⟨x77, rfl, rfl, hP⟩
          refine im_bkS ?_
          refine im_goto (q := 173) (t := 174) D445_170 rfl ?_
          refine im_st2 (q := 176) (i := 8) (L' := [some (.ref 6952), some (vI p1), some (vI p2), some (vI p3), some (vL x62), none, some (vL 0), none, some (vL x77), none]) D445_174 (Or.inr rfl) (Nat.le_of_ble_eq_true rfl) rfl ?_
          refine im_ld (q := 177) (i := 0) D445_176 rfl rfl rfl ?_
          refine im_ld (q := 178) (i := 2) D445_177 rfl rfl rfl ?_
          refine im_ld (q := 180) (i := 4) D445_178 rfl rfl rfl ?_
          refine im_ld (q := 182) (i := 6) D445_180 rfl rfl rfl ?_
          refine im_ld (q := 184) (i := 8) D445_182 rfl rfl rfl ?_
          refine im_callV (q := 187) (kd := 1) (y := 449) (n := 4) (ci := 12) (a := 6952) (vs := [.ref 6952, vI p2, vL x62, vL 0, vL x77]) (r := []) (L2 := [some (.ref 6952), some (vI p2), some (vL x62), none, some (vL 0), none, some (vL x77), none, none, none]) D445_184 (im_cal cn_445 cl_12_1171) (Or.inl rfl) rfl sf_6952 rfl rfl rfl rfl hd ⟨rfl, rfl, rfl, rfl, rfl, trivial⟩ ?_
          refine hP.mono ?_
          rintro _ e86 M78 ⟨x79, rfl, rfl, hP⟩
          refine im_bkS ?_
          obtain ⟨hg80, hP⟩ := hP
          refine im_ifc (q := 190) (t := 192) D445_187 rfl hg80 (fun hc81 => ?_) (fun hc81 => ?_)
          · replace hP := hP.1 hc81
            refine im_ld (q := 193) (i := 0) D445_192 rfl rfl rfl ?_
            refine im_dup (q := 194) D445_193 rfl ?_
            refine im_rng (j := 177) sf_6952 (by decide) (by decide) (fun hr82 => ?_)
            refine im_gfI (q := 197) D445_194 (im_fl cn_445 fl_12_1140) sf_6952 rfl rfl tI_12_177 rfl ?_
            refine im_ld (q := 198) (i := 1) D445_197 rfl rfl rfl ?_
            refine im_iadd (q := 199) D445_198 ?_
            obtain ⟨hg83, hP⟩ := hP
            refine im_pfI (q := 202) D445_199 (im_fl cn_445 fl_12_1140) sf_6952 rfl rfl ti_12_177 hg83 ?_
            refine im_ld (q := 203) (i := 0) D445_202 rfl rfl rfl ?_
            refine im_dup (q := 204) D445_203 rfl ?_
            refine im_rng (j := 178) sf_6952 (by decide) (by decide) (fun hr84 => ?_)
            refine im_gfI (q := 207) D445_204 (im_fl cn_445 fl_12_1154) sf_6952 rfl rfl tI_12_178 (im_rdk _ _ _ (by decide)) ?_
            refine im_iconst (q := 208) D445_207 ?_
            refine im_iadd (q := 209) D445_208 ?_
            obtain ⟨hg85, hP⟩ := hP
            refine im_pfI (q := 212) D445_209 (im_fl cn_445 fl_12_1154) sf_6952 rfl rfl ti_12_178 hg85 ?_
            refine im_iconst (q := 213) D445_212 ?_
            exact im_zret (q := 214) D445_213 rfl (by decide) hP
          · replace hP := hP.2 (Decidable.not_not.mp hc81)
            refine im_iconst (q := 191) D445_190 ?_
            exact im_zret (q := 192) D445_191 rfl (by decide) hP
      · replace hP := hP.2 (Int.not_le.mp hc63)
        refine im_ld (q := 138) (i := 0) D445_137 rfl rfl rfl ?_
        refine im_ld (q := 139) (i := 0) D445_138 rfl rfl rfl ?_
        refine im_rng (j := 177) sf_6952 (by decide) (by decide) (fun hr64 => ?_)
        refine im_gfI (q := 142) D445_139 (im_fl cn_445 fl_12_1140) sf_6952 rfl rfl tI_12_177 rfl ?_
        refine im_bipush (q := 144) D445_142 rfl ?_
        refine im_iadd (q := 145) D445_144 ?_
        refine im_callV (q := 148) (kd := 1) (y := 448) (n := 1) (ci := 12) (a := 6952) (vs := [.ref 6952, vI ((M61 6952 177) + 11)]) (r := []) (L2 := [some (.ref 6952), some (vI ((M61 6952 177) + 11)), none, none, none]) D445_145 (im_cal cn_445 cl_12_1168) (Or.inl rfl) rfl sf_6952 rfl rfl rfl rfl hd ⟨rfl, rfl, trivial⟩ ?_
        refine hP.mono ?_
        rintro _ e113 M88 ⟨x89, rfl, rfl, hP⟩
        refine im_bkS ?_
        refine im_goto (q := 151) (t := 152) D445_148 rfl ?_
        refine im_st2 (q := 154) (i := 6) (L' := [some (.ref 6952), some (vI p1), some (vI p2), some (vI p3), some (vL x62), none, some (vL x89), none, none, none]) D445_152 (Or.inr rfl) (Nat.le_of_ble_eq_true rfl) rfl ?_
        refine im_ld (q := 155) (i := 3) D445_154 rfl rfl rfl ?_
        refine im_iconst (q := 156) D445_155 ?_
        refine im_icmp (q := 159) (t := 173) D445_156 rfl hg4 (by decide) (fun hc90 => ?_) (fun hc90 => ?_)
        · replace hP := hP.1 hc90
          refine im_lconst (q := 174) (z := 0) D445_173 rfl ?_
          refine im_st2 (q := 176) (i := 8) (L' := [some (.ref 6952), some (vI p1), some (vI p2), some (vI p3), some (vL x62), none, some (vL x89), none, some (vL 0), none]) D445_174 (Or.inr rfl) (Nat.le_of_ble_eq_true rfl) rfl ?_
          refine im_ld (q := 177) (i := 0) D445_176 rfl rfl rfl ?_
          refine im_ld (q := 178) (i := 2) D445_177 rfl rfl rfl ?_
          refine im_ld (q := 180) (i := 4) D445_178 rfl rfl rfl ?_
          refine im_ld (q := 182) (i := 6) D445_180 rfl rfl rfl ?_
          refine im_ld (q := 184) (i := 8) D445_182 rfl rfl rfl ?_
          refine im_callV (q := 187) (kd := 1) (y := 449) (n := 4) (ci := 12) (a := 6952) (vs := [.ref 6952, vI p2, vL x62, vL x89, vL 0]) (r := []) (L2 := [some (.ref 6952), some (vI p2), some (vL x62), none, some (vL x89), none, some (vL 0), none, none, none]) D445_184 (im_cal cn_445 cl_12_1171) (Or.inl rfl) rfl sf_6952 rfl rfl rfl rfl hd ⟨rfl, rfl, rfl, rfl, rfl, trivial⟩ ?_
          refine hP.mono ?_
          rintro _ e100 M92 ⟨x93, rfl, rfl, hP⟩
          refine im_bkS ?_
          obtain ⟨hg94, hP⟩ := hP
          refine im_ifc (q := 190) (t := 192) D445_187 rfl hg94 (fun hc95 => ?_) (fun hc95 => ?_)
          · replace hP := hP.1 hc95
            refine im_ld (q := 193) (i := 0) D445_192 rfl rfl rfl ?_
            refine im_dup (q := 194) D445_193 rfl ?_
            refine im_rng (j := 177) sf_6952 (by decide) (by decide) (fun hr96 => ?_)
            refine im_gfI (q := 197) D445_194 (im_fl cn_445 fl_12_1140) sf_6952 rfl rfl tI_12_177 rfl ?_
            refine im_ld (q := 198) (i := 1) D445_197 rfl rfl rfl ?_
            refine im_iadd (q := 199) D445_198 ?_
            obtain ⟨hg97, hP⟩ := hP
            refine im_pfI (q := 202) D445_199 (im_fl cn_445 fl_12_1140) sf_6952 rfl rfl ti_12_177 hg97 ?_
            refine im_ld (q := 203) (i := 0) D445_202 rfl rfl rfl ?_
            refine im_dup (q := 204) D445_203 rfl ?_
            refine im_rng (j := 178) sf_6952 (by decide) (by decide) (fun hr98 => ?_)
            refine im_gfI (q := 207) D445_204 (im_fl cn_445 fl_12_1154) sf_6952 rfl rfl tI_12_178 (im_rdk _ _ _ (by decide)) ?_
            refine im_iconst (q := 208) D445_207 ?_
            refine im_iadd (q := 209) D445_208 ?_
            obtain ⟨hg99, hP⟩ := hP
            refine im_pfI (q := 212) D445_209 (im_fl cn_445 fl_12_1154) sf_6952 rfl rfl ti_12_178 hg99 ?_
            refine im_iconst (q := 213) D445_212 ?_
            exact im_zret (q := 214) D445_213 rfl (by decide) hP
          · replace hP := hP.2 (Decidable.not_not.mp hc95)
            refine im_iconst (q := 191) D445_190 ?_
            exact im_zret (q := 192) D445_191 rfl (by decide) hP
        · replace hP := hP.2 (Int.not_le.mp hc90)
          refine im_ld (q := 160) (i := 0) D445_159 rfl rfl rfl ?_
          refine im_ld (q := 161) (i := 0) D445_160 rfl rfl rfl ?_
          refine im_rng (j := 177) sf_6952 (by decide) (by decide) (fun hr91 => ?_)
          refine im_gfI (q := 164) D445_161 (im_fl cn_445 fl_12_1140) sf_6952 rfl rfl tI_12_177 rfl ?_
          refine im_bipush (q := 166) D445_164 rfl ?_
          refine im_iadd (q := 167) D445_166 ?_
          refine im_callV (q := 170) (kd := 1) (y := 448) (n := 1) (ci := 12) (a := 6952) (vs := [.ref 6952, vI ((M88 6952 177) + 19)]) (r := []) (L2 := [some (.ref 6952), some (vI ((M88 6952 177) + 19)), none, none, none]) D445_167 (im_cal cn_445 cl_12_1168) (Or.inl rfl) rfl sf_6952 rfl rfl rfl rfl hd ⟨rfl, rfl, trivial⟩ ?_
          refine hP.mono ?_
          rintro _ e112 M101 ⟨x102, rfl, rfl, hP⟩
          refine im_bkS ?_
          refine im_goto (q := 173) (t := 174) D445_170 rfl ?_
          refine im_st2 (q := 176) (i := 8) (L' := [some (.ref 6952), some (vI p1), some (vI p2), some (vI p3), some (vL x62), none, some (vL x89), none, some (vL x102), none]) D445_174 (Or.inr rfl) (Nat.le_of_ble_eq_true rfl) rfl ?_
          refine im_ld (q := 177) (i := 0) D445_176 rfl rfl rfl ?_
          refine im_ld (q := 178) (i := 2) D445_177 rfl rfl rfl ?_
          refine im_ld (q := 180) (i := 4) D445_178 rfl rfl rfl ?_
          refine im_ld (q := 182) (i := 6) D445_180 rfl rfl rfl ?_
          refine im_ld (q := 184) (i := 8) D445_182 rfl rfl rfl ?_
          refine im_callV (q := 187) (kd := 1) (y := 449) (n := 4) (ci := 12) (a := 6952) (vs := [.ref 6952, vI p2, vL x62, vL x89, vL x102]) (r := []) (L2 := [some (.ref 6952), some (vI p2), some (vL x62), none, some (vL x89), none, some (vL x102), none, none, none]) D445_184 (im_cal cn_445 cl_12_1171) (Or.inl rfl) rfl sf_6952 rfl rfl rfl rfl hd ⟨rfl, rfl, rfl, rfl, rfl, trivial⟩ ?_
          refine hP.mono ?_
          rintro _ e111 M103 ⟨x104, rfl, rfl, hP⟩
          refine im_bkS ?_
          obtain ⟨hg105, hP⟩ := hP
          refine im_ifc (q := 190) (t := 192) D445_187 rfl hg105 (fun hc106 => ?_) (fun hc106 => ?_)
          · replace hP := hP.1 hc106
            refine im_ld (q := 193) (i := 0) D445_192 rfl rfl rfl ?_
            refine im_dup (q := 194) D445_193 rfl ?_
            refine im_rng (j := 177) sf_6952 (by decide) (by decide) (fun hr107 => ?_)
            refine im_gfI (q := 197) D445_194 (im_fl cn_445 fl_12_1140) sf_6952 rfl rfl tI_12_177 rfl ?_
            refine im_ld (q := 198) (i := 1) D445_197 rfl rfl rfl ?_
            refine im_iadd (q := 199) D445_198 ?_
            obtain ⟨hg108, hP⟩ := hP
            refine im_pfI (q := 202) D445_199 (im_fl cn_445 fl_12_1140) sf_6952 rfl rfl ti_12_177 hg108 ?_
            refine im_ld (q := 203) (i := 0) D445_202 rfl rfl rfl ?_
            refine im_dup (q := 204) D445_203 rfl ?_
            refine im_rng (j := 178) sf_6952 (by decide) (by decide) (fun hr109 => ?_)
            refine im_gfI (q := 207) D445_204 (im_fl cn_445 fl_12_1154) sf_6952 rfl rfl tI_12_178 (im_rdk _ _ _ (by decide)) ?_
            refine im_iconst (q := 208) D445_207 ?_
            refine im_iadd (q := 209) D445_208 ?_
            obtain ⟨hg110, hP⟩ := hP
            refine im_pfI (q := 212) D445_209 (im_fl cn_445 fl_12_1154) sf_6952 rfl rfl ti_12_178 hg110 ?_
            refine im_iconst (q := 213) D445_212 ?_
            exact im_zret (q := 214) D445_213 rfl (by decide) hP
          · replace hP := hP.2 (Decidable.not_not.mp hc106)
            refine im_iconst (q := 191) D445_190 ?_
            exact im_zret (q := 192) D445_191 rfl (by decide) hP
  · replace hP := hP.2 (Int.not_le.mp hc3)
    refine im_ld (q := 81) (i := 0) D445_80 rfl rfl rfl ?_
    refine im_gfR (q := 84) (b := 6959) D445_81 (im_fl cn_445 fl_12_30) sf_6952 rfl rfl tR_12_12 rf_6952_12 ?_
    refine im_ld (q := 86) (i := 4) D445_84 rfl rfl rfl ?_
    refine im_ld (q := 87) (i := 0) D445_86 rfl rfl rfl ?_
    refine im_gfR (q := 90) (b := 7080) D445_87 (im_fl cn_445 fl_12_396) sf_6952 rfl rfl tR_12_176 rf_6952_176 ?_
    refine im_ld (q := 91) (i := 0) D445_90 rfl rfl rfl ?_
    refine im_rng (j := 177) sf_6952 (by decide) (by decide) (fun hr7 => ?_)
    refine im_gfI (q := 94) D445_91 (im_fl cn_445 fl_12_1140) sf_6952 rfl rfl tI_12_177 rfl ?_
    refine im_iconst (q := 95) D445_94 ?_
    refine im_iadd (q := 96) D445_95 ?_
    refine im_bipush (q := 98) D445_96 rfl ?_
    refine im_ld (q := 99) (i := 3) D445_98 rfl rfl rfl ?_
    refine im_imul (q := 100) D445_99 ?_
    refine im_iadd (q := 101) D445_100 ?_
    refine im_ld (q := 103) (i := 4) D445_101 rfl rfl rfl ?_
    refine im_iadd (q := 104) D445_103 ?_
    obtain ⟨hg8, hP⟩ := hP
    refine im_rng (j := ((((M 6952 177) + 3) + (8 * p3)) + p4)) sf_7080 hg8.1 hg8.2 (fun hr9 => ?_)
    refine im_iald (q := 105) D445_104 sf_7080 hg8.1 hg8.2 (by decide) rfl ?_
    obtain ⟨hg115, hP⟩ := hP
    refine im_iast (q := 106) D445_105 sf_6959 hg115.1 hg115.2 (by decide) hr9 ?_
    refine im_iinc (q := 109) (i := 4) (L' := [some (.ref 6952), some (vI p1), some (vI p2), some (vI p3), some (vI (p4 + 1)), none, none, none, none, none]) D445_106 rfl (Nat.le_of_ble_eq_true rfl) rfl ?_
    refine im_goto (q := 112) (t := 71) D445_109 rfl ?_
    exact hP.wk ⟨rfl, rfl, rfl, rfl, rfl, trivial⟩
set_option maxRecDepth 20000 in
set_option maxHeartbeats 4000000 in
theorem b_isRecord_0 {g : im_g} {d : Nat} {e : im_E} {M : im_M} {K : im_K} {p1 : Int} (hd : 1 ≤ d) (hP : (im_i32 (p1 + 7)) ∧ (((p1 + 7) ≤ 16384 → (0 ≤ p1 ∧ p1 < 16384) ∧ (0 ≤ (p1 + 1) ∧ (p1 + 1) < 16384) ∧ (0 ≤ (p1 + 2) ∧ (p1 + 2) < 16384) ∧ ((((7 ≤ (xior (xishl (M 7080 p1) 8) (M 7080 (p1 + 1))) → (im_i32 (p1 + (xior (xishl (M 7080 p1) 8) (M 7080 (p1 + 1))))) ∧ (((p1 + (xior (xishl (M 7080 p1) 8) (M 7080 (p1 + 1)))) ≤ 16384 → im_T g (d - 1) 268 0 [some (vL (M 7080 (p1 + 2))), none, some (vL 1), none, some (vL 8), none] [] e M (im_ri (fun x16 e_ M15 => e = e_ ∧ (im_i32 x16) ∧ ((((x16 = 0 → K (.inl (some (vI 0))) e M15))) ∧ ((((¬ x16 = 0) ∧ ((M 7080 (p1 + 2)) = 1)) ∨ ((¬ x16 = 0) ∧ (¬ (M 7080 (p1 + 2)) = 1) ∧ (5 ≤ (M 7080 (p1 + 2))) ∧ ((M 7080 (p1 + 2)) ≤ 7))) → im_T g (d - 1) 447 0 [some (vI (M 7080 (p1 + 2)))] [] e M15 (im_ri (fun x26 e_ M25 => e = e_ ∧ (im_i32 (7 + (8 * x26))) ∧ (((xior (xishl (M 7080 p1) 8) (M 7080 (p1 + 1))) < (7 + (8 * x26)) → K (.inl (some (vI 0))) e M25) ∧ ((7 + (8 * x26)) ≤ (xior (xishl (M 7080 p1) 8) (M 7080 (p1 + 1))) → im_T g d 446 133 [some (.ref 6952), some (vI p1), some (vI (xior (xishl (M 7080 p1) 8) (M 7080 (p1 + 1)))), none, none, none, some (vI 0), none] [] e (im_u M25 6952 181 (-2128831035)) K))))) ∧ ((((¬ x16 = 0) ∧ (¬ (M 7080 (p1 + 2)) = 1) ∧ ((M 7080 (p1 + 2)) < 5)) ∨ ((¬ x16 = 0) ∧ (¬ (M 7080 (p1 + 2)) = 1) ∧ (5 ≤ (M 7080 (p1 + 2))) ∧ (7 < (M 7080 (p1 + 2))))) → im_T g (d - 1) 447 0 [some (vI (M 7080 (p1 + 2)))] [] e M15 (im_ri (fun x35 e_ M34 => e = e_ ∧ (im_i32 (7 + (8 * x35))) ∧ (((((7 + (8 * x35)) ≤ (xior (xishl (M 7080 p1) 8) (M 7080 (p1 + 1))) → (((xior (xishl (M 7080 p1) 8) (M 7080 (p1 + 1))) = (7 + (8 * x35)) → im_T g d 446 133 [some (.ref 6952), some (vI p1), some (vI (xior (xishl (M 7080 p1) 8) (M 7080 (p1 + 1)))), none, none, none, some (vI 0), none] [] e (im_u M34 6952 181 (-2128831035)) K))))) ∧ (((((xior (xishl (M 7080 p1) 8) (M 7080 (p1 + 1))) < (7 + (8 * x35)))) ∨ (((7 + (8 * x35)) ≤ (xior (xishl (M 7080 p1) 8) (M 7080 (p1 + 1)))) ∧ (¬ (xior (xishl (M 7080 p1) 8) (M 7080 (p1 + 1))) = (7 + (8 * x35))))) → K (.inl (some (vI 0))) e M34))))))))))))) ∧ (((((xior (xishl (M 7080 p1) 8) (M 7080 (p1 + 1))) < 7)) ∨ ((7 ≤ (xior (xishl (M 7080 p1) 8) (M 7080 (p1 + 1)))) ∧ (16384 < (p1 + (xior (xishl (M 7080 p1) 8) (M 7080 (p1 + 1))))))) → K (.inl (some (vI 0))) e M))) ∧ (16384 < (p1 + 7) → K (.inl (some (vI 0))) e M))) : im_T g d 446 0 [some (.ref 6952), some (vI p1), none, none, none, none, none, none] [] e M K := by
  refine im_ld (q := 1) (i := 1) D446_0 rfl rfl rfl ?_
  refine im_bipush (q := 3) D446_1 rfl ?_
  refine im_iadd (q := 4) D446_3 ?_
  refine im_sipush (q := 7) D446_4 rfl ?_
  obtain ⟨hg1, hP⟩ := hP
  refine im_icmp (q := 10) (t := 12) D446_7 rfl hg1 (by decide) (fun hc2 => ?_) (fun hc2 => ?_)
  · replace hP := hP.1 hc2
    refine im_ld (q := 13) (i := 0) D446_12 rfl rfl rfl ?_
    refine im_gfR (q := 16) (b := 7080) D446_13 (im_fl cn_446 fl_12_396) sf_6952 rfl rfl tR_12_176 rf_6952_176 ?_
    refine im_ld (q := 17) (i := 1) D446_16 rfl rfl rfl ?_
    obtain ⟨hg3, hP⟩ := hP
    refine im_rng (j := p1) sf_7080 hg3.1 hg3.2 (fun hr4 => ?_)
    refine im_iald (q := 18) D446_17 sf_7080 hg3.1 hg3.2 (by decide) rfl ?_
    refine im_bipush (q := 20) D446_18 rfl ?_
    refine im_ishl (q := 21) D446_20 ?_
    refine im_ld (q := 22) (i := 0) D446_21 rfl rfl rfl ?_
    refine im_gfR (q := 25) (b := 7080) D446_22 (im_fl cn_446 fl_12_396) sf_6952 rfl rfl tR_12_176 rf_6952_176 ?_
    refine im_ld (q := 26) (i := 1) D446_25 rfl rfl rfl ?_
    refine im_iconst (q := 27) D446_26 ?_
    refine im_iadd (q := 28) D446_27 ?_
    obtain ⟨hg5, hP⟩ := hP
    refine im_rng (j := (p1 + 1)) sf_7080 hg5.1 hg5.2 (fun hr6 => ?_)
    refine im_iald (q := 29) D446_28 sf_7080 hg5.1 hg5.2 (by decide) rfl ?_
    refine im_ior (q := 30) D446_29 ?_
    refine im_st1 (q := 31) (i := 2) (L' := [some (.ref 6952), some (vI p1), some (vI (xior (xishl (M 7080 p1) 8) (M 7080 (p1 + 1)))), none, none, none, none, none]) D446_30 (Or.inl ⟨_, rfl, rfl⟩) (Nat.le_of_ble_eq_true rfl) rfl ?_
    refine im_ld (q := 32) (i := 0) D446_31 rfl rfl rfl ?_
    refine im_gfR (q := 35) (b := 7080) D446_32 (im_fl cn_446 fl_12_396) sf_6952 rfl rfl tR_12_176 rf_6952_176 ?_
    refine im_ld (q := 36) (i := 1) D446_35 rfl rfl rfl ?_
    refine im_iconst (q := 37) D446_36 ?_
    refine im_iadd (q := 38) D446_37 ?_
    obtain ⟨hg7, hP⟩ := hP
    refine im_rng (j := (p1 + 2)) sf_7080 hg7.1 hg7.2 (fun hr8 => ?_)
    refine im_iald (q := 39) D446_38 sf_7080 hg7.1 hg7.2 (by decide) rfl ?_
    refine im_st1 (q := 40) (i := 3) (L' := [some (.ref 6952), some (vI p1), some (vI (xior (xishl (M 7080 p1) 8) (M 7080 (p1 + 1)))), some (vI (M 7080 (p1 + 2))), none, none, none, none]) D446_39 (Or.inl ⟨_, rfl, rfl⟩) (Nat.le_of_ble_eq_true rfl) rfl ?_
    refine im_ld (q := 41) (i := 2) D446_40 rfl rfl rfl ?_
    refine im_bipush (q := 43) D446_41 rfl ?_
    obtain ⟨hP, hJ12⟩ := hP
    have kJ13 : ((((xior (xishl (M 7080 p1) 8) (M 7080 (p1 + 1))) < 7)) ∨ ((7 ≤ (xior (xishl (M 7080 p1) 8) (M 7080 (p1 + 1)))) ∧ (16384 < (p1 + (xior (xishl (M 7080 p1) 8) (M 7080 (p1 + 1))))))) → im_T g d 446 67 [none, none, none, none, none, none, none, none] [] e M K := by
      intro  hx14
      have hP := hJ12  hx14
      refine im_iconst (q := 68) D446_67 ?_
      exact im_zret (q := 69) D446_68 rfl (by decide) hP
    refine im_icmp (q := 46) (t := 67) D446_43 rfl (xior_r _ _) (by decide) (fun hc9 => ?_) (fun hc9 => ?_)
    · exact (kJ13  (Or.inl hc9)).wk trivial
    · replace hP := hP (Int.not_lt.mp hc9)
      refine im_ld (q := 47) (i := 1) D446_46 rfl rfl rfl ?_
      refine im_ld (q := 48) (i := 2) D446_47 rfl rfl rfl ?_
      refine im_iadd (q := 49) D446_48 ?_
      refine im_sipush (q := 52) D446_49 rfl ?_
      obtain ⟨hg10, hP⟩ := hP
      refine im_icmp (q := 55) (t := 67) D446_52 rfl hg10 (by decide) (fun hc11 => ?_) (fun hc11 => ?_)
      · exact (kJ13  (Or.inr ⟨(Int.not_lt.mp hc9), hc11⟩)).wk trivial
      · replace hP := hP (Int.not_lt.mp hc11)
        refine im_ld (q := 56) (i := 3) D446_55 rfl rfl rfl ?_
        refine im_i2l (q := 57) D446_56 hr8 ?_
        refine im_lconst (q := 58) (z := 1) D446_57 rfl ?_
        refine im_ldc2 (q := 61) (n := 8) D446_58 rfl ?_
        refine im_callS (q := 64) (kd := 0) (y := 268) (n := 3) (z := 12) (vs := [vL (M 7080 (p1 + 2)), vL 1, vL 8]) (r := []) (L2 := [some (vL (M 7080 (p1 + 2))), none, some (vL 1), none, some (vL 8), none]) D446_61 rfl (im_cal cn_446 cl_12_428) (Or.inl rfl) rfl rfl rfl rfl rfl hd ⟨rfl, rfl, rfl, trivial⟩ ?_
        refine hP.mono ?_
        rintro _ e44 M15 ⟨x16, rfl, rfl, hP⟩
        refine im_bkS ?_
        obtain ⟨hg17, hP⟩ := hP
        obtain ⟨hP, hJ22, hJ31⟩ := hP
        have kJ23 : (((¬ x16 = 0) ∧ ((M 7080 (p1 + 2)) = 1)) ∨ ((¬ x16 = 0) ∧ (¬ (M 7080 (p1 + 2)) = 1) ∧ (5 ≤ (M 7080 (p1 + 2))) ∧ ((M 7080 (p1 + 2)) ≤ 7))) → im_T g d 446 85 [some (.ref 6952), some (vI p1), some (vI (xior (xishl (M 7080 p1) 8) (M 7080 (p1 + 1)))), some (vI (M 7080 (p1 + 2))), none, none, none, none] [] e M15 K := by
          intro  hx24
          have hP := hJ22  hx24
          refine im_iconst (q := 86) D446_85 ?_
          refine im_goto (q := 89) (t := 90) D446_86 rfl ?_
          refine im_st1 (q := 92) (i := 4) (L' := [some (.ref 6952), some (vI p1), some (vI (xior (xishl (M 7080 p1) 8) (M 7080 (p1 + 1)))), some (vI (M 7080 (p1 + 2))), some (vI 1), none, none, none]) D446_90 (Or.inr rfl) (Nat.le_of_ble_eq_true rfl) rfl ?_
          refine im_bipush (q := 94) D446_92 rfl ?_
          refine im_bipush (q := 96) D446_94 rfl ?_
          refine im_ld (q := 97) (i := 3) D446_96 rfl rfl rfl ?_
          refine im_callS (q := 100) (kd := 0) (y := 447) (n := 1) (z := 12) (vs := [vI (M 7080 (p1 + 2))]) (r := [vI 8, vI 7]) (L2 := [some (vI (M 7080 (p1 + 2)))]) D446_97 rfl (im_cal cn_446 cl_12_1159) (Or.inl rfl) rfl rfl rfl rfl rfl hd ⟨rfl, trivial⟩ ?_
          refine hP.mono ?_
          rintro _ e30 M25 ⟨x26, rfl, rfl, hP⟩
          refine im_bkS ?_
          refine im_imul (q := 101) D446_100 ?_
          refine im_iadd (q := 102) D446_101 ?_
          refine im_st1 (q := 104) (i := 5) (L' := [some (.ref 6952), some (vI p1), some (vI (xior (xishl (M 7080 p1) 8) (M 7080 (p1 + 1)))), some (vI (M 7080 (p1 + 2))), some (vI 1), some (vI (7 + (8 * x26))), none, none]) D446_102 (Or.inr rfl) (Nat.le_of_ble_eq_true rfl) rfl ?_
          refine im_ld (q := 105) (i := 2) D446_104 rfl rfl rfl ?_
          refine im_ld (q := 107) (i := 5) D446_105 rfl rfl rfl ?_
          obtain ⟨hg27, hP⟩ := hP
          refine im_icmp (q := 110) (t := 121) D446_107 rfl (xior_r _ _) hg27 (fun hc28 => ?_) (fun hc28 => ?_)
          · replace hP := hP.1 hc28
            refine im_iconst (q := 122) D446_121 ?_
            exact im_zret (q := 123) D446_122 rfl (by decide) hP
          · replace hP := hP.2 (Int.not_lt.mp hc28)
            refine im_ld (q := 112) (i := 4) D446_110 rfl rfl rfl ?_
            refine im_ifc (q := 115) (t := 123) D446_112 rfl (by decide) (fun _ => ?_) (fun hc => absurd (show ¬ (1 : Int) = 0 by decide) hc)
            refine im_ld (q := 124) (i := 0) D446_123 rfl rfl rfl ?_
            refine im_ldc (q := 127) (n := (-2128831035)) (Or.inr rfl) D446_124 rfl rfl ?_
            refine im_pfI (q := 130) D446_127 (im_fl cn_446 fl_12_1133) sf_6952 rfl rfl ti_12_181 (by decide) ?_
            refine im_iconst (q := 131) D446_130 ?_
            refine im_st1 (q := 133) (i := 6) (L' := [some (.ref 6952), some (vI p1), some (vI (xior (xishl (M 7080 p1) 8) (M 7080 (p1 + 1)))), some (vI (M 7080 (p1 + 2))), some (vI 1), some (vI (7 + (8 * x26))), some (vI 0), none]) D446_131 (Or.inr rfl) (Nat.le_of_ble_eq_true rfl) rfl ?_
            exact hP.wk ⟨rfl, rfl, rfl, rfl, trivial⟩
        have kJ32 : (((¬ x16 = 0) ∧ (¬ (M 7080 (p1 + 2)) = 1) ∧ ((M 7080 (p1 + 2)) < 5)) ∨ ((¬ x16 = 0) ∧ (¬ (M 7080 (p1 + 2)) = 1) ∧ (5 ≤ (M 7080 (p1 + 2))) ∧ (7 < (M 7080 (p1 + 2))))) → im_T g d 446 89 [some (.ref 6952), some (vI p1), some (vI (xior (xishl (M 7080 p1) 8) (M 7080 (p1 + 1)))), some (vI (M 7080 (p1 + 2))), none, none, none, none] [] e M15 K := by
          intro  hx33
          have hP := hJ31  hx33
          refine im_iconst (q := 90) D446_89 ?_
          refine im_st1 (q := 92) (i := 4) (L' := [some (.ref 6952), some (vI p1), some (vI (xior (xishl (M 7080 p1) 8) (M 7080 (p1 + 1)))), some (vI (M 7080 (p1 + 2))), some (vI 0), none, none, none]) D446_90 (Or.inr rfl) (Nat.le_of_ble_eq_true rfl) rfl ?_
          refine im_bipush (q := 94) D446_92 rfl ?_
          refine im_bipush (q := 96) D446_94 rfl ?_
          refine im_ld (q := 97) (i := 3) D446_96 rfl rfl rfl ?_
          refine im_callS (q := 100) (kd := 0) (y := 447) (n := 1) (z := 12) (vs := [vI (M 7080 (p1 + 2))]) (r := [vI 8, vI 7]) (L2 := [some (vI (M 7080 (p1 + 2)))]) D446_97 rfl (im_cal cn_446 cl_12_1159) (Or.inl rfl) rfl rfl rfl rfl rfl hd ⟨rfl, trivial⟩ ?_
          refine hP.mono ?_
          rintro _ e43 M34 ⟨x35, rfl, rfl, hP⟩
          refine im_bkS ?_
          refine im_imul (q := 101) D446_100 ?_
          refine im_iadd (q := 102) D446_101 ?_
          refine im_st1 (q := 104) (i := 5) (L' := [some (.ref 6952), some (vI p1), some (vI (xior (xishl (M 7080 p1) 8) (M 7080 (p1 + 1)))), some (vI (M 7080 (p1 + 2))), some (vI 0), some (vI (7 + (8 * x35))), none, none]) D446_102 (Or.inr rfl) (Nat.le_of_ble_eq_true rfl) rfl ?_
          refine im_ld (q := 105) (i := 2) D446_104 rfl rfl rfl ?_
          refine im_ld (q := 107) (i := 5) D446_105 rfl rfl rfl ?_
          obtain ⟨hg36, hP⟩ := hP
          obtain ⟨hP, hJ40⟩ := hP
          have kJ41 : ((((xior (xishl (M 7080 p1) 8) (M 7080 (p1 + 1))) < (7 + (8 * x35)))) ∨ (((7 + (8 * x35)) ≤ (xior (xishl (M 7080 p1) 8) (M 7080 (p1 + 1)))) ∧ (¬ (xior (xishl (M 7080 p1) 8) (M 7080 (p1 + 1))) = (7 + (8 * x35))))) → im_T g d 446 121 [none, none, none, none, none, none, none, none] [] e M34 K := by
            intro  hx42
            have hP := hJ40  hx42
            refine im_iconst (q := 122) D446_121 ?_
            exact im_zret (q := 123) D446_122 rfl (by decide) hP
          refine im_icmp (q := 110) (t := 121) D446_107 rfl (xior_r _ _) hg36 (fun hc37 => ?_) (fun hc37 => ?_)
          · exact (kJ41  (Or.inl hc37)).wk trivial
          · replace hP := hP (Int.not_lt.mp hc37)
            refine im_ld (q := 112) (i := 4) D446_110 rfl rfl rfl ?_
            refine im_ifc (q := 115) (t := 123) D446_112 rfl (by decide) (fun hc => absurd hc (show ¬ (¬ (0 : Int) = 0) by decide)) (fun _ => ?_)
            refine im_ld (q := 116) (i := 2) D446_115 rfl rfl rfl ?_
            refine im_ld (q := 118) (i := 5) D446_116 rfl rfl rfl ?_
            refine im_icmp (q := 121) (t := 123) D446_118 rfl (xior_r _ _) hg36 (fun hc39 => ?_) (fun hc39 => ?_)
            · replace hP := hP hc39
              refine im_ld (q := 124) (i := 0) D446_123 rfl rfl rfl ?_
              refine im_ldc (q := 127) (n := (-2128831035)) (Or.inr rfl) D446_124 rfl rfl ?_
              refine im_pfI (q := 130) D446_127 (im_fl cn_446 fl_12_1133) sf_6952 rfl rfl ti_12_181 (by decide) ?_
              refine im_iconst (q := 131) D446_130 ?_
              refine im_st1 (q := 133) (i := 6) (L' := [some (.ref 6952), some (vI p1), some (vI (xior (xishl (M 7080 p1) 8) (M 7080 (p1 + 1)))), some (vI (M 7080 (p1 + 2))), some (vI 0), some (vI (7 + (8 * x35))), some (vI 0), none]) D446_131 (Or.inr rfl) (Nat.le_of_ble_eq_true rfl) rfl ?_
              exact hP.wk ⟨rfl, rfl, rfl, rfl, trivial⟩
            · exact (kJ41  (Or.inr ⟨(Int.not_lt.mp hc37), hc39⟩)).wk trivial
        refine im_ifc (q := 67) (t := 69) D446_64 rfl hg17 (fun hc18 => ?_) (fun hc18 => ?_)
        · refine im_ld (q := 70) (i := 3) D446_69 rfl rfl rfl ?_
          refine im_iconst (q := 71) D446_70 ?_
          refine im_icmp (q := 74) (t := 85) D446_71 rfl hr8 (by decide) (fun hc19 => ?_) (fun hc19 => ?_)
          · exact (kJ23  (Or.inl ⟨hc18, hc19⟩)).wk ⟨rfl, rfl, rfl, rfl, trivial⟩
          · refine im_ld (q := 75) (i := 3) D446_74 rfl rfl rfl ?_
            refine im_iconst (q := 76) D446_75 ?_
            refine im_icmp (q := 79) (t := 89) D446_76 rfl hr8 (by decide) (fun hc20 => ?_) (fun hc20 => ?_)
            · exact (kJ32  (Or.inl ⟨hc18, hc19, hc20⟩)).wk ⟨rfl, rfl, rfl, rfl, trivial⟩
            · refine im_ld (q := 80) (i := 3) D446_79 rfl rfl rfl ?_
              refine im_bipush (q := 82) D446_80 rfl ?_
              refine im_icmp (q := 85) (t := 89) D446_82 rfl hr8 (by decide) (fun hc21 => ?_) (fun hc21 => ?_)
              · exact (kJ32  (Or.inr ⟨hc18, hc19, (Int.not_lt.mp hc20), hc21⟩)).wk ⟨rfl, rfl, rfl, rfl, trivial⟩
              · exact (kJ23  (Or.inr ⟨hc18, hc19, (Int.not_lt.mp hc20), (Int.not_lt.mp hc21)⟩)).wk ⟨rfl, rfl, rfl, rfl, trivial⟩
        · replace hP := hP (Decidable.not_not.mp hc18)
          refine im_iconst (q := 68) D446_67 ?_
          exact im_zret (q := 69) D446_68 rfl (by decide) hP
  · replace hP := hP.2 (Int.not_le.mp hc2)
    refine im_iconst (q := 11) D446_10 ?_
    exact im_zret (q := 12) D446_11 rfl (by decide) hP
set_option maxRecDepth 20000 in
set_option maxHeartbeats 4000000 in
theorem b_isRecord_133 {g : im_g} {d : Nat} {e : im_E} {M : im_M} {K : im_K} {p1 p2 p6 : Int} (hd : 1 ≤ d) (hP : (im_i32 p6) ∧ (im_i32 (p2 - 4)) ∧ (((p2 - 4) ≤ p6 → im_T g (d - 1) 311 0 [some (.ref 6952), some (vI p1), none] [] e M (im_r0 (fun  e_ M6 => e = e_ ∧ im_T g d 446 171 [some (.ref 6952), some (vI p1), some (vI p2), none, none, none, some (vI 1), some (vI 0)] [] e M6 K))) ∧ (p6 < (p2 - 4) → (0 ≤ (p1 + p6) ∧ (p1 + p6) < 16384) ∧ im_T g (d - 1) 309 0 [some (.ref 6952), some (vI (M 7080 (p1 + p6)))] [] e M (im_r0 (fun  e_ M8 => e = e_ ∧ im_T g d 446 133 [some (.ref 6952), some (vI p1), some (vI p2), none, none, none, some (vI (p6 + 1)), none] [] e M8 K))))) : im_T g d 446 133 [some (.ref 6952), some (vI p1), some (vI p2), none, none, none, some (vI p6), none] [] e M K := by
  refine im_ld (q := 135) (i := 6) D446_133 rfl rfl rfl ?_
  refine im_ld (q := 136) (i := 2) D446_135 rfl rfl rfl ?_
  refine im_iconst (q := 137) D446_136 ?_
  refine im_isub (q := 138) D446_137 ?_
  obtain ⟨hg1, hP⟩ := hP
  obtain ⟨hg2, hP⟩ := hP
  refine im_icmp (q := 141) (t := 160) D446_138 rfl hg1 hg2 (fun hc3 => ?_) (fun hc3 => ?_)
  · replace hP := hP.1 hc3
    refine im_ld (q := 161) (i := 0) D446_160 rfl rfl rfl ?_
    refine im_ld (q := 162) (i := 1) D446_161 rfl rfl rfl ?_
    refine im_callV (q := 165) (kd := 1) (y := 311) (n := 1) (ci := 12) (a := 6952) (vs := [.ref 6952, vI p1]) (r := []) (L2 := [some (.ref 6952), some (vI p1), none]) D446_162 (im_cal cn_446 cl_12_1151) (Or.inl rfl) rfl sf_6952 rfl rfl rfl rfl hd ⟨rfl, rfl, trivial⟩ ?_
    refine hP.mono ?_
    rintro _ e7 M6 ⟨rfl, rfl, hP⟩
    refine im_bkN ?_
    refine im_iconst (q := 166) D446_165 ?_
    refine im_st1 (q := 168) (i := 6) (L' := [some (.ref 6952), some (vI p1), some (vI p2), none, none, none, some (vI 1), none]) D446_166 (Or.inr rfl) (Nat.le_of_ble_eq_true rfl) rfl ?_
    refine im_iconst (q := 169) D446_168 ?_
    refine im_st1 (q := 171) (i := 7) (L' := [some (.ref 6952), some (vI p1), some (vI p2), none, none, none, some (vI 1), some (vI 0)]) D446_169 (Or.inr rfl) (Nat.le_of_ble_eq_true rfl) rfl ?_
    exact hP.wk ⟨rfl, rfl, rfl, rfl, rfl, trivial⟩
  · replace hP := hP.2 (Int.not_le.mp hc3)
    refine im_ld (q := 142) (i := 0) D446_141 rfl rfl rfl ?_
    refine im_ld (q := 143) (i := 0) D446_142 rfl rfl rfl ?_
    refine im_gfR (q := 146) (b := 7080) D446_143 (im_fl cn_446 fl_12_396) sf_6952 rfl rfl tR_12_176 rf_6952_176 ?_
    refine im_ld (q := 147) (i := 1) D446_146 rfl rfl rfl ?_
    refine im_ld (q := 149) (i := 6) D446_147 rfl rfl rfl ?_
    refine im_iadd (q := 150) D446_149 ?_
    obtain ⟨hg4, hP⟩ := hP
    refine im_rng (j := (p1 + p6)) sf_7080 hg4.1 hg4.2 (fun hr5 => ?_)
    refine im_iald (q := 151) D446_150 sf_7080 hg4.1 hg4.2 (by decide) rfl ?_
    refine im_callV (q := 154) (kd := 1) (y := 309) (n := 1) (ci := 12) (a := 6952) (vs := [.ref 6952, vI (M 7080 (p1 + p6))]) (r := []) (L2 := [some (.ref 6952), some (vI (M 7080 (p1 + p6)))]) D446_151 (im_cal cn_446 cl_12_1137) (Or.inl rfl) rfl sf_6952 rfl rfl rfl rfl hd ⟨rfl, rfl, trivial⟩ ?_
    refine hP.mono ?_
    rintro _ e9 M8 ⟨rfl, rfl, hP⟩
    refine im_bkN ?_
    refine im_iinc (q := 157) (i := 6) (L' := [some (.ref 6952), some (vI p1), some (vI p2), none, none, none, some (vI (p6 + 1)), none]) D446_154 rfl (Nat.le_of_ble_eq_true rfl) rfl ?_
    refine im_goto (q := 160) (t := 133) D446_157 rfl ?_
    exact hP.wk ⟨rfl, rfl, rfl, rfl, trivial⟩
set_option maxRecDepth 20000 in
set_option maxHeartbeats 4000000 in
theorem b_isRecord_171 {g : im_g} {d : Nat} {e : im_E} {M : im_M} {K : im_K} {p1 p2 p6 p7 : Int} (hP : (im_i32 p7) ∧ ((((4 ≤ p7 → (0 ≤ p6 ∧ p6 ≤ 1) ∧ K (.inl (some (vI p6))) e M) ∧ (p7 < 4 → (im_i32 p6) ∧ ((¬ p6 = 0 → (0 ≤ (((p1 + p2) - 4) + p7) ∧ (((p1 + p2) - 4) + p7) < 16384) ∧ (((M 7080 (((p1 + p2) - 4) + p7)) = (xiand (xishr (M 6952 181) (24 - (8 * p7))) 255) → im_T g d 446 171 [some (.ref 6952), some (vI p1), some (vI p2), none, none, none, some (vI 1), some (vI (p7 + 1))] [] e M K))))))) ∧ ((((p7 < 4) ∧ (p6 = 0)) ∨ ((p7 < 4) ∧ (¬ p6 = 0) ∧ (¬ (M 7080 (((p1 + p2) - 4) + p7)) = (xiand (xishr (M 6952 181) (24 - (8 * p7))) 255)))) → im_T g d 446 171 [some (.ref 6952), some (vI p1), some (vI p2), none, none, none, some (vI 0), some (vI (p7 + 1))] [] e M K))) : im_T g d 446 171 [some (.ref 6952), some (vI p1), some (vI p2), none, none, none, some (vI p6), some (vI p7)] [] e M K := by
  refine im_ld (q := 173) (i := 7) D446_171 rfl rfl rfl ?_
  refine im_iconst (q := 174) D446_173 ?_
  obtain ⟨hg1, hP⟩ := hP
  obtain ⟨hP, hJ9⟩ := hP
  have kJ10 : (((p7 < 4) ∧ (p6 = 0)) ∨ ((p7 < 4) ∧ (¬ p6 = 0) ∧ (¬ (M 7080 (((p1 + p2) - 4) + p7)) = (xiand (xishr (M 6952 181) (24 - (8 * p7))) 255)))) → im_T g d 446 219 [some (.ref 6952), some (vI p1), some (vI p2), none, none, none, none, some (vI p7)] [] e M K := by
    intro  hx11
    have hP := hJ9  hx11
    refine im_iconst (q := 220) D446_219 ?_
    refine im_st1 (q := 222) (i := 6) (L' := [some (.ref 6952), some (vI p1), some (vI p2), none, none, none, some (vI 0), some (vI p7)]) D446_220 (Or.inr rfl) (Nat.le_of_ble_eq_true rfl) rfl ?_
    refine im_iinc (q := 225) (i := 7) (L' := [some (.ref 6952), some (vI p1), some (vI p2), none, none, none, some (vI 0), some (vI (p7 + 1))]) D446_222 rfl (Nat.le_of_ble_eq_true rfl) rfl ?_
    refine im_goto (q := 228) (t := 171) D446_225 rfl ?_
    exact hP.wk ⟨rfl, rfl, rfl, rfl, rfl, trivial⟩
  refine im_icmp (q := 177) (t := 228) D446_174 rfl hg1 (by decide) (fun hc2 => ?_) (fun hc2 => ?_)
  · replace hP := hP.1 hc2
    refine im_ld (q := 230) (i := 6) D446_228 rfl rfl rfl ?_
    obtain ⟨hg12, hP⟩ := hP
    exact im_zret (q := 231) D446_230 rfl hg12 hP
  · replace hP := hP.2 (Int.not_le.mp hc2)
    refine im_ld (q := 179) (i := 6) D446_177 rfl rfl rfl ?_
    obtain ⟨hg3, hP⟩ := hP
    refine im_ifc (q := 182) (t := 219) D446_179 rfl hg3 (fun hc4 => ?_) (fun hc4 => ?_)
    · exact (kJ10  (Or.inl ⟨(Int.not_le.mp hc2), hc4⟩)).wk ⟨rfl, rfl, rfl, rfl, trivial⟩
    · replace hP := hP hc4
      refine im_ld (q := 183) (i := 0) D446_182 rfl rfl rfl ?_
      refine im_gfR (q := 186) (b := 7080) D446_183 (im_fl cn_446 fl_12_396) sf_6952 rfl rfl tR_12_176 rf_6952_176 ?_
      refine im_ld (q := 187) (i := 1) D446_186 rfl rfl rfl ?_
      refine im_ld (q := 188) (i := 2) D446_187 rfl rfl rfl ?_
      refine im_iadd (q := 189) D446_188 ?_
      refine im_iconst (q := 190) D446_189 ?_
      refine im_isub (q := 191) D446_190 ?_
      refine im_ld (q := 193) (i := 7) D446_191 rfl rfl rfl ?_
      refine im_iadd (q := 194) D446_193 ?_
      obtain ⟨hg5, hP⟩ := hP
      refine im_rng (j := (((p1 + p2) - 4) + p7)) sf_7080 hg5.1 hg5.2 (fun hr6 => ?_)
      refine im_iald (q := 195) D446_194 sf_7080 hg5.1 hg5.2 (by decide) rfl ?_
      refine im_ld (q := 196) (i := 0) D446_195 rfl rfl rfl ?_
      refine im_rng (j := 181) sf_6952 (by decide) (by decide) (fun hr7 => ?_)
      refine im_gfI (q := 199) D446_196 (im_fl cn_446 fl_12_1133) sf_6952 rfl rfl tI_12_181 rfl ?_
      refine im_bipush (q := 201) D446_199 rfl ?_
      refine im_bipush (q := 203) D446_201 rfl ?_
      refine im_ld (q := 205) (i := 7) D446_203 rfl rfl rfl ?_
      refine im_imul (q := 206) D446_205 ?_
      refine im_isub (q := 207) D446_206 ?_
      refine im_ishr (q := 208) D446_207 ?_
      refine im_sipush (q := 211) D446_208 rfl ?_
      refine im_iand (q := 212) D446_211 ?_
      refine im_icmp (q := 215) (t := 219) D446_212 rfl hr6 (xiand_r _ _) (fun hc8 => ?_) (fun hc8 => ?_)
      · exact (kJ10  (Or.inr ⟨(Int.not_le.mp hc2), hc4, hc8⟩)).wk ⟨rfl, rfl, rfl, rfl, trivial⟩
      · replace hP := hP (Decidable.not_not.mp hc8)
        refine im_iconst (q := 216) D446_215 ?_
        refine im_goto (q := 219) (t := 220) D446_216 rfl ?_
        refine im_st1 (q := 222) (i := 6) (L' := [some (.ref 6952), some (vI p1), some (vI p2), none, none, none, some (vI 1), some (vI p7)]) D446_220 (Or.inr rfl) (Nat.le_of_ble_eq_true rfl) rfl ?_
        refine im_iinc (q := 225) (i := 7) (L' := [some (.ref 6952), some (vI p1), some (vI p2), none, none, none, some (vI 1), some (vI (p7 + 1))]) D446_222 rfl (Nat.le_of_ble_eq_true rfl) rfl ?_
        refine im_goto (q := 228) (t := 171) D446_225 rfl ?_
        exact hP.wk ⟨rfl, rfl, rfl, rfl, rfl, trivial⟩
set_option maxRecDepth 20000 in
set_option maxHeartbeats 4000000 in
theorem b_numbersOf_0 {g : im_g} {d : Nat} {e : im_E} {M : im_M} {K : im_K} {p0 : Int} (hP : (im_i32 p0) ∧ (((((p0 = 3)) ∨ ((¬ p0 = 3) ∧ (p0 = 6))) → K (.inl (some (vI 3))) e M) ∧ (∀ x6 : Int, (((¬ p0 = 3) ∧ (¬ p0 = 6) ∧ (¬ p0 = 5) ∧ (¬ p0 = 8) ∧ x6 = 1) ∨ ((¬ p0 = 3) ∧ (¬ p0 = 6) ∧ (¬ p0 = 5) ∧ (p0 = 8) ∧ x6 = 0) ∨ ((¬ p0 = 3) ∧ (¬ p0 = 6) ∧ (p0 = 5) ∧ x6 = 2)) → K (.inl (some (vI x6))) e M))) : im_T g d 447 0 [some (vI p0)] [] e M K := by
  refine im_ld (q := 1) (i := 0) D447_0 rfl rfl rfl ?_
  refine im_iconst (q := 2) D447_1 ?_
  obtain ⟨hg1, hP⟩ := hP
  obtain ⟨hJ7, hJ10⟩ := hP
  have kJ8 : (((p0 = 3)) ∨ ((¬ p0 = 3) ∧ (p0 = 6))) → im_T g d 447 11 [none] [] e M K := by
    intro  hx9
    have hP := hJ7  hx9
    refine im_iconst (q := 12) D447_11 ?_
    refine im_goto (q := 15) (t := 35) D447_12 rfl ?_
    exact im_iret (q := 36) D447_35 rfl hP
  have kJ11 : ∀ x6 : Int, (((¬ p0 = 3) ∧ (¬ p0 = 6) ∧ (¬ p0 = 5) ∧ (¬ p0 = 8) ∧ x6 = 1) ∨ ((¬ p0 = 3) ∧ (¬ p0 = 6) ∧ (¬ p0 = 5) ∧ (p0 = 8) ∧ x6 = 0) ∨ ((¬ p0 = 3) ∧ (¬ p0 = 6) ∧ (p0 = 5) ∧ x6 = 2)) → im_T g d 447 35 [none] [vI x6] e M K := by
    intro x6 hx12
    have hP := hJ10 x6 hx12
    exact im_iret (q := 36) D447_35 rfl hP
  refine im_icmp (q := 5) (t := 11) D447_2 rfl hg1 (by decide) (fun hc2 => ?_) (fun hc2 => ?_)
  · exact (kJ8  (Or.inl hc2)).wk trivial
  · refine im_ld (q := 6) (i := 0) D447_5 rfl rfl rfl ?_
    refine im_bipush (q := 8) D447_6 rfl ?_
    refine im_icmp (q := 11) (t := 15) D447_8 rfl hg1 (by decide) (fun hc3 => ?_) (fun hc3 => ?_)
    · refine im_ld (q := 16) (i := 0) D447_15 rfl rfl rfl ?_
      refine im_iconst (q := 17) D447_16 ?_
      refine im_icmp (q := 20) (t := 24) D447_17 rfl hg1 (by decide) (fun hc4 => ?_) (fun hc4 => ?_)
      · refine im_ld (q := 25) (i := 0) D447_24 rfl rfl rfl ?_
        refine im_bipush (q := 27) D447_25 rfl ?_
        refine im_icmp (q := 30) (t := 34) D447_27 rfl hg1 (by decide) (fun hc5 => ?_) (fun hc5 => ?_)
        · refine im_iconst (q := 35) D447_34 ?_
          exact (kJ11 (1) (Or.inl ⟨hc2, hc3, hc4, hc5, rfl⟩)).wk trivial
        · refine im_iconst (q := 31) D447_30 ?_
          refine im_goto (q := 34) (t := 35) D447_31 rfl ?_
          exact (kJ11 (0) (Or.inr (Or.inl ⟨hc2, hc3, hc4, (Decidable.not_not.mp hc5), rfl⟩))).wk trivial
      · refine im_iconst (q := 21) D447_20 ?_
        refine im_goto (q := 24) (t := 35) D447_21 rfl ?_
        exact (kJ11 (2) (Or.inr (Or.inr ⟨hc2, hc3, (Decidable.not_not.mp hc4), rfl⟩))).wk trivial
    · exact (kJ8  (Or.inr ⟨hc2, (Decidable.not_not.mp hc3)⟩)).wk trivial
set_option maxRecDepth 20000 in
set_option maxHeartbeats 4000000 in
theorem b_diskNumber_0 {g : im_g} {d : Nat} {e : im_E} {M : im_M} {K : im_K} {p1 : Int} (hP : im_T g d 448 5 [some (.ref 6952), some (vI p1), some (vL 0), none, some (vI 0)] [] e M K) : im_T g d 448 0 [some (.ref 6952), some (vI p1), none, none, none] [] e M K := by
  refine im_lconst (q := 1) (z := 0) D448_0 rfl ?_
  refine im_st2 (q := 2) (i := 2) (L' := [some (.ref 6952), some (vI p1), some (vL 0), none, none]) D448_1 (Or.inl ⟨_, rfl, rfl⟩) (Nat.le_of_ble_eq_true rfl) rfl ?_
  refine im_iconst (q := 3) D448_2 ?_
  refine im_st1 (q := 5) (i := 4) (L' := [some (.ref 6952), some (vI p1), some (vL 0), none, some (vI 0)]) D448_3 (Or.inr rfl) (Nat.le_of_ble_eq_true rfl) rfl ?_
  exact hP.wk ⟨rfl, rfl, rfl, rfl, trivial⟩
set_option maxRecDepth 20000 in
set_option maxHeartbeats 4000000 in
theorem b_diskNumber_5 {g : im_g} {d : Nat} {e : im_E} {M : im_M} {K : im_K} {p1 p2 p4 : Int} (hP : (im_i32 p4) ∧ ((8 ≤ p4 → K (.inl (some (vL p2))) e M) ∧ (p4 < 8 → (0 ≤ (p1 + p4) ∧ (p1 + p4) < 16384) ∧ im_T g d 448 5 [some (.ref 6952), some (vI p1), some (vL (xlor (xlshl p2 8) (M 7080 (p1 + p4)))), none, some (vI (p4 + 1))] [] e M K))) : im_T g d 448 5 [some (.ref 6952), some (vI p1), some (vL p2), none, some (vI p4)] [] e M K := by
  refine im_ld (q := 7) (i := 4) D448_5 rfl rfl rfl ?_
  refine im_bipush (q := 9) D448_7 rfl ?_
  obtain ⟨hg1, hP⟩ := hP
  refine im_icmp (q := 12) (t := 34) D448_9 rfl hg1 (by decide) (fun hc2 => ?_) (fun hc2 => ?_)
  · replace hP := hP.1 hc2
    refine im_ld (q := 35) (i := 2) D448_34 rfl rfl rfl ?_
    exact im_lret (q := 36) D448_35 rfl hP
  · replace hP := hP.2 (Int.not_le.mp hc2)
    refine im_ld (q := 13) (i := 2) D448_12 rfl rfl rfl ?_
    refine im_bipush (q := 15) D448_13 rfl ?_
    refine im_lshl (q := 16) D448_15 ?_
    refine im_ld (q := 17) (i := 0) D448_16 rfl rfl rfl ?_
    refine im_gfR (q := 20) (b := 7080) D448_17 (im_fl cn_448 fl_12_396) sf_6952 rfl rfl tR_12_176 rf_6952_176 ?_
    refine im_ld (q := 21) (i := 1) D448_20 rfl rfl rfl ?_
    refine im_ld (q := 23) (i := 4) D448_21 rfl rfl rfl ?_
    refine im_iadd (q := 24) D448_23 ?_
    obtain ⟨hg3, hP⟩ := hP
    refine im_rng (j := (p1 + p4)) sf_7080 hg3.1 hg3.2 (fun hr4 => ?_)
    refine im_iald (q := 25) D448_24 sf_7080 hg3.1 hg3.2 (by decide) rfl ?_
    refine im_i2l (q := 26) D448_25 hr4 ?_
    refine im_lor (q := 27) D448_26 ?_
    refine im_st2 (q := 28) (i := 2) (L' := [some (.ref 6952), some (vI p1), some (vL (xlor (xlshl p2 8) (M 7080 (p1 + p4)))), none, some (vI p4)]) D448_27 (Or.inl ⟨_, rfl, rfl⟩) (Nat.le_of_ble_eq_true rfl) rfl ?_
    refine im_iinc (q := 31) (i := 4) (L' := [some (.ref 6952), some (vI p1), some (vL (xlor (xlshl p2 8) (M 7080 (p1 + p4)))), none, some (vI (p4 + 1))]) D448_28 rfl (Nat.le_of_ble_eq_true rfl) rfl ?_
    refine im_goto (q := 34) (t := 5) D448_31 rfl ?_
    exact hP.wk ⟨rfl, rfl, rfl, rfl, trivial⟩

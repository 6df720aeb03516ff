/-! blocks of the reference -/
theorem D424_0 {g : im_g} : im_D g 424 0 (.aload_n 0) 1 := im_D.of (by decide +kernel)
theorem D424_1 {g : im_g} : im_D g 424 1 (.lload_n 3) 2 := im_D.of (by decide +kernel)
theorem D424_2 {g : im_g} : im_D g 424 2 (.invokevirtual 1074) 5 := im_D.of (by decide +kernel)
theorem D424_5 {g : im_g} : im_D g 424 5 (.istore 5) 7 := im_D.of (by decide +kernel)
theorem D424_7 {g : im_g} : im_D g 424 7 (.iload 5) 9 := im_D.of (by decide +kernel)
theorem D424_9 {g : im_g} : im_D g 424 9 (.iconst (-1)) 10 := im_D.of (by decide +kernel)
theorem D424_10 {g : im_g} : im_D g 424 10 (.if_icmp .ne 19) 13 := im_D.of (by decide +kernel)
theorem D424_13 {g : im_g} : im_D g 424 13 (.aload_n 0) 14 := im_D.of (by decide +kernel)
theorem D424_14 {g : im_g} : im_D g 424 14 (.getfield 1071) 17 := im_D.of (by decide +kernel)
theorem D424_17 {g : im_g} : im_D g 424 17 (.istore 5) 19 := im_D.of (by decide +kernel)
theorem D424_19 {g : im_g} : im_D g 424 19 (.aload_n 0) 20 := im_D.of (by decide +kernel)
theorem D424_20 {g : im_g} : im_D g 424 20 (.dup) 21 := im_D.of (by decide +kernel)
theorem D424_21 {g : im_g} : im_D g 424 21 (.getfield 1071) 24 := im_D.of (by decide +kernel)
theorem D424_24 {g : im_g} : im_D g 424 24 (.iconst 1) 25 := im_D.of (by decide +kernel)
theorem D424_25 {g : im_g} : im_D g 424 25 (.iadd) 26 := im_D.of (by decide +kernel)
theorem D424_26 {g : im_g} : im_D g 424 26 (.putfield 1071) 29 := im_D.of (by decide +kernel)
theorem D424_29 {g : im_g} : im_D g 424 29 (.aload_n 0) 30 := im_D.of (by decide +kernel)
theorem D424_30 {g : im_g} : im_D g 424 30 (.getfield 291) 33 := im_D.of (by decide +kernel)
theorem D424_33 {g : im_g} : im_D g 424 33 (.iload 5) 35 := im_D.of (by decide +kernel)
theorem D424_35 {g : im_g} : im_D g 424 35 (.lload_n 3) 36 := im_D.of (by decide +kernel)
theorem D424_36 {g : im_g} : im_D g 424 36 (.lastore) 37 := im_D.of (by decide +kernel)
theorem D424_37 {g : im_g} : im_D g 424 37 (.aload_n 0) 38 := im_D.of (by decide +kernel)
theorem D424_38 {g : im_g} : im_D g 424 38 (.aload_n 0) 39 := im_D.of (by decide +kernel)
theorem D424_39 {g : im_g} : im_D g 424 39 (.getfield 294) 42 := im_D.of (by decide +kernel)
theorem D424_42 {g : im_g} : im_D g 424 42 (.iload 5) 44 := im_D.of (by decide +kernel)
theorem D424_44 {g : im_g} : im_D g 424 44 (.aload_n 0) 45 := im_D.of (by decide +kernel)
theorem D424_45 {g : im_g} : im_D g 424 45 (.getfield 1077) 48 := im_D.of (by decide +kernel)
theorem D424_48 {g : im_g} : im_D g 424 48 (.invokevirtual 816) 51 := im_D.of (by decide +kernel)
theorem D424_51 {g : im_g} : im_D g 424 51 (.aload_n 0) 52 := im_D.of (by decide +kernel)
theorem D424_52 {g : im_g} : im_D g 424 52 (.lload_n 1) 53 := im_D.of (by decide +kernel)
theorem D424_53 {g : im_g} : im_D g 424 53 (.lload_n 3) 54 := im_D.of (by decide +kernel)
theorem D424_54 {g : im_g} : im_D g 424 54 (.invokevirtual 968) 57 := im_D.of (by decide +kernel)
theorem D424_57 {g : im_g} : im_D g 424 57 (.istore 6) 59 := im_D.of (by decide +kernel)
theorem D424_59 {g : im_g} : im_D g 424 59 (.iload 6) 61 := im_D.of (by decide +kernel)
theorem D424_61 {g : im_g} : im_D g 424 61 (.iconst (-1)) 62 := im_D.of (by decide +kernel)
theorem D424_62 {g : im_g} : im_D g 424 62 (.if_icmp .ne 19) 65 := im_D.of (by decide +kernel)
theorem D424_65 {g : im_g} : im_D g 424 65 (.aload_n 0) 66 := im_D.of (by decide +kernel)
theorem D424_66 {g : im_g} : im_D g 424 66 (.getfield 1032) 69 := im_D.of (by decide +kernel)
theorem D424_69 {g : im_g} : im_D g 424 69 (.istore 6) 71 := im_D.of (by decide +kernel)
theorem D424_71 {g : im_g} : im_D g 424 71 (.aload_n 0) 72 := im_D.of (by decide +kernel)
theorem D424_72 {g : im_g} : im_D g 424 72 (.dup) 73 := im_D.of (by decide +kernel)
theorem D424_73 {g : im_g} : im_D g 424 73 (.getfield 1032) 76 := im_D.of (by decide +kernel)
theorem D424_76 {g : im_g} : im_D g 424 76 (.iconst 1) 77 := im_D.of (by decide +kernel)
theorem D424_77 {g : im_g} : im_D g 424 77 (.iadd) 78 := im_D.of (by decide +kernel)
theorem D424_78 {g : im_g} : im_D g 424 78 (.putfield 1032) 81 := im_D.of (by decide +kernel)
theorem D424_81 {g : im_g} : im_D g 424 81 (.aload_n 0) 82 := im_D.of (by decide +kernel)
theorem D424_82 {g : im_g} : im_D g 424 82 (.getfield 282) 85 := im_D.of (by decide +kernel)
theorem D424_85 {g : im_g} : im_D g 424 85 (.iload 6) 87 := im_D.of (by decide +kernel)
theorem D424_87 {g : im_g} : im_D g 424 87 (.lload_n 1) 88 := im_D.of (by decide +kernel)
theorem D424_88 {g : im_g} : im_D g 424 88 (.lastore) 89 := im_D.of (by decide +kernel)
theorem D424_89 {g : im_g} : im_D g 424 89 (.aload_n 0) 90 := im_D.of (by decide +kernel)
theorem D424_90 {g : im_g} : im_D g 424 90 (.getfield 285) 93 := im_D.of (by decide +kernel)
theorem D424_93 {g : im_g} : im_D g 424 93 (.iload 6) 95 := im_D.of (by decide +kernel)
theorem D424_95 {g : im_g} : im_D g 424 95 (.lload_n 3) 96 := im_D.of (by decide +kernel)
theorem D424_96 {g : im_g} : im_D g 424 96 (.lastore) 97 := im_D.of (by decide +kernel)
theorem D424_97 {g : im_g} : im_D g 424 97 (.aload_n 0) 98 := im_D.of (by decide +kernel)
theorem D424_98 {g : im_g} : im_D g 424 98 (.aload_n 0) 99 := im_D.of (by decide +kernel)
theorem D424_99 {g : im_g} : im_D g 424 99 (.getfield 288) 102 := im_D.of (by decide +kernel)
theorem D424_102 {g : im_g} : im_D g 424 102 (.iload 6) 104 := im_D.of (by decide +kernel)
theorem D424_104 {g : im_g} : im_D g 424 104 (.aload_n 0) 105 := im_D.of (by decide +kernel)
theorem D424_105 {g : im_g} : im_D g 424 105 (.getfield 1080) 108 := im_D.of (by decide +kernel)
theorem D424_108 {g : im_g} : im_D g 424 108 (.invokevirtual 816) 111 := im_D.of (by decide +kernel)
theorem D424_111 {g : im_g} : im_D g 424 111 (.iconst 0) 112 := im_D.of (by decide +kernel)
theorem D424_112 {g : im_g} : im_D g 424 112 (.ireturn) 113 := im_D.of (by decide +kernel)
theorem D425_0 {g : im_g} : im_D g 425 0 (.aload_n 0) 1 := im_D.of (by decide +kernel)
theorem D425_1 {g : im_g} : im_D g 425 1 (.iconst 2) 2 := im_D.of (by decide +kernel)
theorem D425_2 {g : im_g} : im_D g 425 2 (.lload_n 1) 3 := im_D.of (by decide +kernel)
theorem D425_3 {g : im_g} : im_D g 425 3 (.invokestatic 800) 6 := im_D.of (by decide +kernel)
theorem D425_6 {g : im_g} : im_D g 425 6 (.ifCond .eq 14) 9 := im_D.of (by decide +kernel)
theorem D425_9 {g : im_g} : im_D g 425 9 (.lload_n 3) 10 := im_D.of (by decide +kernel)
theorem D425_10 {g : im_g} : im_D g 425 10 (.invokestatic 800) 13 := im_D.of (by decide +kernel)
theorem D425_13 {g : im_g} : im_D g 425 13 (.ifCond .eq 7) 16 := im_D.of (by decide +kernel)
theorem D425_16 {g : im_g} : im_D g 425 16 (.iconst 1) 17 := im_D.of (by decide +kernel)
theorem D425_17 {g : im_g} : im_D g 425 17 (.goto 4) 20 := im_D.of (by decide +kernel)
theorem D425_20 {g : im_g} : im_D g 425 20 (.iconst 0) 21 := im_D.of (by decide +kernel)
theorem D425_21 {g : im_g} : im_D g 425 21 (.iconst 1) 22 := im_D.of (by decide +kernel)
theorem D425_22 {g : im_g} : im_D g 425 22 (.iconst 1) 23 := im_D.of (by decide +kernel)
theorem D425_23 {g : im_g} : im_D g 425 23 (.invokevirtual 419) 26 := im_D.of (by decide +kernel)
theorem D425_26 {g : im_g} : im_D g 425 26 (.ifCond .ne 5) 29 := im_D.of (by decide +kernel)
theorem D425_29 {g : im_g} : im_D g 425 29 (.iconst 0) 30 := im_D.of (by decide +kernel)
theorem D425_30 {g : im_g} : im_D g 425 30 (.ireturn) 31 := im_D.of (by decide +kernel)
theorem D425_31 {g : im_g} : im_D g 425 31 (.aload_n 0) 32 := im_D.of (by decide +kernel)
theorem D425_32 {g : im_g} : im_D g 425 32 (.aload_n 0) 33 := im_D.of (by decide +kernel)
theorem D425_33 {g : im_g} : im_D g 425 33 (.getfield 617) 36 := im_D.of (by decide +kernel)
theorem D425_36 {g : im_g} : im_D g 425 36 (.putfield 449) 39 := im_D.of (by decide +kernel)
theorem D425_39 {g : im_g} : im_D g 425 39 (.aload_n 0) 40 := im_D.of (by decide +kernel)
theorem D425_40 {g : im_g} : im_D g 425 40 (.invokevirtual 1047) 43 := im_D.of (by decide +kernel)
theorem D425_43 {g : im_g} : im_D g 425 43 (.aload_n 0) 44 := im_D.of (by decide +kernel)
theorem D425_44 {g : im_g} : im_D g 425 44 (.lload_n 1) 45 := im_D.of (by decide +kernel)
theorem D425_45 {g : im_g} : im_D g 425 45 (.lload_n 3) 46 := im_D.of (by decide +kernel)
theorem D425_46 {g : im_g} : im_D g 425 46 (.invokevirtual 968) 49 := im_D.of (by decide +kernel)
theorem D425_49 {g : im_g} : im_D g 425 49 (.istore 5) 51 := im_D.of (by decide +kernel)
theorem D425_51 {g : im_g} : im_D g 425 51 (.aload_n 0) 52 := im_D.of (by decide +kernel)
theorem D425_52 {g : im_g} : im_D g 425 52 (.iconst 0) 53 := im_D.of (by decide +kernel)
theorem D425_53 {g : im_g} : im_D g 425 53 (.putfield 423) 56 := im_D.of (by decide +kernel)
theorem D425_56 {g : im_g} : im_D g 425 56 (.aload_n 0) 57 := im_D.of (by decide +kernel)
theorem D425_57 {g : im_g} : im_D g 425 57 (.iload 5) 59 := im_D.of (by decide +kernel)
theorem D425_59 {g : im_g} : im_D g 425 59 (.iconst (-1)) 60 := im_D.of (by decide +kernel)
theorem D425_60 {g : im_g} : im_D g 425 60 (.if_icmp .ne 10) 63 := im_D.of (by decide +kernel)
theorem D425_63 {g : im_g} : im_D g 425 63 (.aload_n 0) 64 := im_D.of (by decide +kernel)
theorem D425_64 {g : im_g} : im_D g 425 64 (.invokevirtual 493) 67 := im_D.of (by decide +kernel)
theorem D425_67 {g : im_g} : im_D g 425 67 (.goto 10) 70 := im_D.of (by decide +kernel)
theorem D425_70 {g : im_g} : im_D g 425 70 (.aload_n 0) 71 := im_D.of (by decide +kernel)
theorem D425_71 {g : im_g} : im_D g 425 71 (.getfield 255) 74 := im_D.of (by decide +kernel)
theorem D425_74 {g : im_g} : im_D g 425 74 (.iload 5) 76 := im_D.of (by decide +kernel)
theorem D425_76 {g : im_g} : im_D g 425 76 (.iaload) 77 := im_D.of (by decide +kernel)
theorem D425_77 {g : im_g} : im_D g 425 77 (.invokevirtual 756) 80 := im_D.of (by decide +kernel)
theorem D425_80 {g : im_g} : im_D g 425 80 (.aload_n 0) 81 := im_D.of (by decide +kernel)
theorem D425_81 {g : im_g} : im_D g 425 81 (.getfield 423) 84 := im_D.of (by decide +kernel)
theorem D425_84 {g : im_g} : im_D g 425 84 (.ireturn) 85 := im_D.of (by decide +kernel)
theorem D426_0 {g : im_g} : im_D g 426 0 (.aload_n 0) 1 := im_D.of (by decide +kernel)
theorem D426_1 {g : im_g} : im_D g 426 1 (.iconst 2) 2 := im_D.of (by decide +kernel)
theorem D426_2 {g : im_g} : im_D g 426 2 (.lload_n 1) 3 := im_D.of (by decide +kernel)
theorem D426_3 {g : im_g} : im_D g 426 3 (.invokestatic 800) 6 := im_D.of (by decide +kernel)
theorem D426_6 {g : im_g} : im_D g 426 6 (.ifCond .eq 19) 9 := im_D.of (by decide +kernel)
theorem D426_9 {g : im_g} : im_D g 426 9 (.iload_n 3) 10 := im_D.of (by decide +kernel)
theorem D426_10 {g : im_g} : im_D g 426 10 (.i2l) 11 := im_D.of (by decide +kernel)
theorem D426_11 {g : im_g} : im_D g 426 11 (.lconst 0) 12 := im_D.of (by decide +kernel)
theorem D426_12 {g : im_g} : im_D g 426 12 (.ldc2_w 1069) 15 := im_D.of (by decide +kernel)
theorem D426_15 {g : im_g} : im_D g 426 15 (.invokestatic 428) 18 := im_D.of (by decide +kernel)
theorem D426_18 {g : im_g} : im_D g 426 18 (.ifCond .eq 7) 21 := im_D.of (by decide +kernel)
theorem D426_21 {g : im_g} : im_D g 426 21 (.iconst 1) 22 := im_D.of (by decide +kernel)
theorem D426_22 {g : im_g} : im_D g 426 22 (.goto 4) 25 := im_D.of (by decide +kernel)
theorem D426_25 {g : im_g} : im_D g 426 25 (.iconst 0) 26 := im_D.of (by decide +kernel)
theorem D426_26 {g : im_g} : im_D g 426 26 (.iconst 1) 27 := im_D.of (by decide +kernel)
theorem D426_27 {g : im_g} : im_D g 426 27 (.iconst 1) 28 := im_D.of (by decide +kernel)
theorem D426_28 {g : im_g} : im_D g 426 28 (.invokevirtual 419) 31 := im_D.of (by decide +kernel)
theorem D426_31 {g : im_g} : im_D g 426 31 (.ifCond .ne 5) 34 := im_D.of (by decide +kernel)
theorem D426_34 {g : im_g} : im_D g 426 34 (.iconst 0) 35 := im_D.of (by decide +kernel)
theorem D426_35 {g : im_g} : im_D g 426 35 (.ireturn) 36 := im_D.of (by decide +kernel)
theorem D426_36 {g : im_g} : im_D g 426 36 (.aload_n 0) 37 := im_D.of (by decide +kernel)
theorem D426_37 {g : im_g} : im_D g 426 37 (.aload_n 0) 38 := im_D.of (by decide +kernel)
theorem D426_38 {g : im_g} : im_D g 426 38 (.getfield 617) 41 := im_D.of (by decide +kernel)
theorem D426_41 {g : im_g} : im_D g 426 41 (.putfield 449) 44 := im_D.of (by decide +kernel)
theorem D426_44 {g : im_g} : im_D g 426 44 (.aload_n 0) 45 := im_D.of (by decide +kernel)
theorem D426_45 {g : im_g} : im_D g 426 45 (.invokevirtual 493) 48 := im_D.of (by decide +kernel)
theorem D426_48 {g : im_g} : im_D g 426 48 (.istore 4) 50 := im_D.of (by decide +kernel)
theorem D426_50 {g : im_g} : im_D g 426 50 (.iconst 0) 51 := im_D.of (by decide +kernel)
theorem D426_51 {g : im_g} : im_D g 426 51 (.istore 5) 53 := im_D.of (by decide +kernel)
theorem D426_53 {g : im_g} : im_D g 426 53 (.iload 5) 55 := im_D.of (by decide +kernel)
theorem D426_55 {g : im_g} : im_D g 426 55 (.aload_n 0) 56 := im_D.of (by decide +kernel)
theorem D426_56 {g : im_g} : im_D g 426 56 (.getfield 1032) 59 := im_D.of (by decide +kernel)
theorem D426_59 {g : im_g} : im_D g 426 59 (.if_icmp .ge 51) 62 := im_D.of (by decide +kernel)
theorem D426_62 {g : im_g} : im_D g 426 62 (.iload_n 3) 63 := im_D.of (by decide +kernel)
theorem D426_63 {g : im_g} : im_D g 426 63 (.iconst 2) 64 := im_D.of (by decide +kernel)
theorem D426_64 {g : im_g} : im_D g 426 64 (.irem) 65 := im_D.of (by decide +kernel)
theorem D426_65 {g : im_g} : im_D g 426 65 (.ifCond .ne 45) 68 := im_D.of (by decide +kernel)
theorem D426_68 {g : im_g} : im_D g 426 68 (.aload_n 0) 69 := im_D.of (by decide +kernel)
theorem D426_69 {g : im_g} : im_D g 426 69 (.getfield 285) 72 := im_D.of (by decide +kernel)
theorem D426_72 {g : im_g} : im_D g 426 72 (.iload 5) 74 := im_D.of (by decide +kernel)
theorem D426_74 {g : im_g} : im_D g 426 74 (.laload) 75 := im_D.of (by decide +kernel)
theorem D426_75 {g : im_g} : im_D g 426 75 (.lload_n 1) 76 := im_D.of (by decide +kernel)
theorem D426_76 {g : im_g} : im_D g 426 76 (.lcmp) 77 := im_D.of (by decide +kernel)
theorem D426_77 {g : im_g} : im_D g 426 77 (.ifCond .ne 23) 80 := im_D.of (by decide +kernel)
theorem D426_80 {g : im_g} : im_D g 426 80 (.aload_n 0) 81 := im_D.of (by decide +kernel)
theorem D426_81 {g : im_g} : im_D g 426 81 (.iload 4) 83 := im_D.of (by decide +kernel)
theorem D426_83 {g : im_g} : im_D g 426 83 (.aload_n 0) 84 := im_D.of (by decide +kernel)
theorem D426_84 {g : im_g} : im_D g 426 84 (.aload_n 0) 85 := im_D.of (by decide +kernel)
theorem D426_85 {g : im_g} : im_D g 426 85 (.getfield 288) 88 := im_D.of (by decide +kernel)
theorem D426_88 {g : im_g} : im_D g 426 88 (.iload 5) 90 := im_D.of (by decide +kernel)
theorem D426_90 {g : im_g} : im_D g 426 90 (.invokevirtual 825) 93 := im_D.of (by decide +kernel)
theorem D426_93 {g : im_g} : im_D g 426 93 (.iconst 1) 94 := im_D.of (by decide +kernel)
theorem D426_94 {g : im_g} : im_D g 426 94 (.invokevirtual 914) 97 := im_D.of (by decide +kernel)
theorem D426_97 {g : im_g} : im_D g 426 97 (.goto 5) 100 := im_D.of (by decide +kernel)
theorem D426_100 {g : im_g} : im_D g 426 100 (.iload 4) 102 := im_D.of (by decide +kernel)
theorem D426_102 {g : im_g} : im_D g 426 102 (.istore 4) 104 := im_D.of (by decide +kernel)
theorem D426_104 {g : im_g} : im_D g 426 104 (.iinc 5 1) 107 := im_D.of (by decide +kernel)
theorem D426_107 {g : im_g} : im_D g 426 107 (.goto (-54)) 110 := im_D.of (by decide +kernel)
theorem D426_110 {g : im_g} : im_D g 426 110 (.iconst 0) 111 := im_D.of (by decide +kernel)
theorem D426_111 {g : im_g} : im_D g 426 111 (.istore 5) 113 := im_D.of (by decide +kernel)
theorem D426_113 {g : im_g} : im_D g 426 113 (.iload 5) 115 := im_D.of (by decide +kernel)
theorem D426_115 {g : im_g} : im_D g 426 115 (.bipush 16) 117 := im_D.of (by decide +kernel)
theorem D426_117 {g : im_g} : im_D g 426 117 (.if_icmp .ge 96) 120 := im_D.of (by decide +kernel)
theorem D426_120 {g : im_g} : im_D g 426 120 (.iload_n 3) 121 := im_D.of (by decide +kernel)
theorem D426_121 {g : im_g} : im_D g 426 121 (.iconst 1) 122 := im_D.of (by decide +kernel)
theorem D426_122 {g : im_g} : im_D g 426 122 (.if_icmp .eq 8) 125 := im_D.of (by decide +kernel)
theorem D426_125 {g : im_g} : im_D g 426 125 (.iload_n 3) 126 := im_D.of (by decide +kernel)
theorem D426_126 {g : im_g} : im_D g 426 126 (.iconst 2) 127 := im_D.of (by decide +kernel)
theorem D426_127 {g : im_g} : im_D g 426 127 (.if_icmp .ne 86) 130 := im_D.of (by decide +kernel)
theorem D426_130 {g : im_g} : im_D g 426 130 (.bipush 40) 132 := im_D.of (by decide +kernel)
theorem D426_132 {g : im_g} : im_D g 426 132 (.iload 5) 134 := im_D.of (by decide +kernel)
theorem D426_134 {g : im_g} : im_D g 426 134 (.imul) 135 := im_D.of (by decide +kernel)
theorem D426_135 {g : im_g} : im_D g 426 135 (.istore 6) 137 := im_D.of (by decide +kernel)
theorem D426_137 {g : im_g} : im_D g 426 137 (.aload_n 0) 138 := im_D.of (by decide +kernel)
theorem D426_138 {g : im_g} : im_D g 426 138 (.getfield 136) 141 := im_D.of (by decide +kernel)
theorem D426_141 {g : im_g} : im_D g 426 141 (.iload 5) 143 := im_D.of (by decide +kernel)
theorem D426_143 {g : im_g} : im_D g 426 143 (.baload) 144 := im_D.of (by decide +kernel)
theorem D426_144 {g : im_g} : im_D g 426 144 (.ifCond .eq 63) 147 := im_D.of (by decide +kernel)
theorem D426_147 {g : im_g} : im_D g 426 147 (.iload 6) 149 := im_D.of (by decide +kernel)
theorem D426_149 {g : im_g} : im_D g 426 149 (.bipush 40) 151 := im_D.of (by decide +kernel)
theorem D426_151 {g : im_g} : im_D g 426 151 (.iload 5) 153 := im_D.of (by decide +kernel)
theorem D426_153 {g : im_g} : im_D g 426 153 (.imul) 154 := im_D.of (by decide +kernel)
theorem D426_154 {g : im_g} : im_D g 426 154 (.aload_n 0) 155 := im_D.of (by decide +kernel)
theorem D426_155 {g : im_g} : im_D g 426 155 (.getfield 145) 158 := im_D.of (by decide +kernel)
theorem D426_158 {g : im_g} : im_D g 426 158 (.iload 5) 160 := im_D.of (by decide +kernel)
theorem D426_160 {g : im_g} : im_D g 426 160 (.iaload) 161 := im_D.of (by decide +kernel)
theorem D426_161 {g : im_g} : im_D g 426 161 (.iadd) 162 := im_D.of (by decide +kernel)
theorem D426_162 {g : im_g} : im_D g 426 162 (.if_icmp .ge 45) 165 := im_D.of (by decide +kernel)
theorem D426_165 {g : im_g} : im_D g 426 165 (.aload_n 0) 166 := im_D.of (by decide +kernel)
theorem D426_166 {g : im_g} : im_D g 426 166 (.getfield 151) 169 := im_D.of (by decide +kernel)
theorem D426_169 {g : im_g} : im_D g 426 169 (.iload 6) 171 := im_D.of (by decide +kernel)
theorem D426_171 {g : im_g} : im_D g 426 171 (.laload) 172 := im_D.of (by decide +kernel)
theorem D426_172 {g : im_g} : im_D g 426 172 (.lload_n 1) 173 := im_D.of (by decide +kernel)
theorem D426_173 {g : im_g} : im_D g 426 173 (.lcmp) 174 := im_D.of (by decide +kernel)
theorem D426_174 {g : im_g} : im_D g 426 174 (.ifCond .ne 23) 177 := im_D.of (by decide +kernel)
theorem D426_177 {g : im_g} : im_D g 426 177 (.aload_n 0) 178 := im_D.of (by decide +kernel)
theorem D426_178 {g : im_g} : im_D g 426 178 (.iload 4) 180 := im_D.of (by decide +kernel)
theorem D426_180 {g : im_g} : im_D g 426 180 (.aload_n 0) 181 := im_D.of (by decide +kernel)
theorem D426_181 {g : im_g} : im_D g 426 181 (.aload_n 0) 182 := im_D.of (by decide +kernel)
theorem D426_182 {g : im_g} : im_D g 426 182 (.getfield 155) 185 := im_D.of (by decide +kernel)
theorem D426_185 {g : im_g} : im_D g 426 185 (.iload 6) 187 := im_D.of (by decide +kernel)
theorem D426_187 {g : im_g} : im_D g 426 187 (.invokevirtual 825) 190 := im_D.of (by decide +kernel)
theorem D426_190 {g : im_g} : im_D g 426 190 (.iconst 1) 191 := im_D.of (by decide +kernel)
theorem D426_191 {g : im_g} : im_D g 426 191 (.invokevirtual 914) 194 := im_D.of (by decide +kernel)
theorem D426_194 {g : im_g} : im_D g 426 194 (.goto 5) 197 := im_D.of (by decide +kernel)
theorem D426_197 {g : im_g} : im_D g 426 197 (.iload 4) 199 := im_D.of (by decide +kernel)
theorem D426_199 {g : im_g} : im_D g 426 199 (.istore 4) 201 := im_D.of (by decide +kernel)
theorem D426_201 {g : im_g} : im_D g 426 201 (.iinc 6 1) 204 := im_D.of (by decide +kernel)
theorem D426_204 {g : im_g} : im_D g 426 204 (.goto (-67)) 207 := im_D.of (by decide +kernel)
theorem D426_207 {g : im_g} : im_D g 426 207 (.iinc 5 1) 210 := im_D.of (by decide +kernel)
theorem D426_210 {g : im_g} : im_D g 426 210 (.goto (-97)) 213 := im_D.of (by decide +kernel)
theorem D426_213 {g : im_g} : im_D g 426 213 (.iload_n 3) 214 := im_D.of (by decide +kernel)
theorem D426_214 {g : im_g} : im_D g 426 214 (.iconst 3) 215 := im_D.of (by decide +kernel)
theorem D426_215 {g : im_g} : im_D g 426 215 (.if_icmp .ne 27) 218 := im_D.of (by decide +kernel)
theorem D426_218 {g : im_g} : im_D g 426 218 (.aload_n 0) 219 := im_D.of (by decide +kernel)
theorem D426_219 {g : im_g} : im_D g 426 219 (.lload_n 1) 220 := im_D.of (by decide +kernel)
theorem D426_220 {g : im_g} : im_D g 426 220 (.invokevirtual 1074) 223 := im_D.of (by decide +kernel)
theorem D426_223 {g : im_g} : im_D g 426 223 (.iconst (-1)) 224 := im_D.of (by decide +kernel)
theorem D426_224 {g : im_g} : im_D g 426 224 (.if_icmp .eq 18) 227 := im_D.of (by decide +kernel)
theorem D426_227 {g : im_g} : im_D g 426 227 (.aload_n 0) 228 := im_D.of (by decide +kernel)
theorem D426_228 {g : im_g} : im_D g 426 228 (.aload_n 0) 229 := im_D.of (by decide +kernel)
theorem D426_229 {g : im_g} : im_D g 426 229 (.getfield 294) 232 := im_D.of (by decide +kernel)
theorem D426_232 {g : im_g} : im_D g 426 232 (.aload_n 0) 233 := im_D.of (by decide +kernel)
theorem D426_233 {g : im_g} : im_D g 426 233 (.lload_n 1) 234 := im_D.of (by decide +kernel)
theorem D426_234 {g : im_g} : im_D g 426 234 (.invokevirtual 1074) 237 := im_D.of (by decide +kernel)
theorem D426_237 {g : im_g} : im_D g 426 237 (.invokevirtual 825) 240 := im_D.of (by decide +kernel)
theorem D426_240 {g : im_g} : im_D g 426 240 (.istore 4) 242 := im_D.of (by decide +kernel)
theorem D426_242 {g : im_g} : im_D g 426 242 (.aload_n 0) 243 := im_D.of (by decide +kernel)
theorem D426_243 {g : im_g} : im_D g 426 243 (.iconst 0) 244 := im_D.of (by decide +kernel)
theorem D426_244 {g : im_g} : im_D g 426 244 (.putfield 423) 247 := im_D.of (by decide +kernel)
theorem D426_247 {g : im_g} : im_D g 426 247 (.aload_n 0) 248 := im_D.of (by decide +kernel)
theorem D426_248 {g : im_g} : im_D g 426 248 (.iload 4) 250 := im_D.of (by decide +kernel)
theorem D426_250 {g : im_g} : im_D g 426 250 (.invokevirtual 756) 253 := im_D.of (by decide +kernel)
theorem D426_253 {g : im_g} : im_D g 426 253 (.aload_n 0) 254 := im_D.of (by decide +kernel)
theorem D426_254 {g : im_g} : im_D g 426 254 (.getfield 423) 257 := im_D.of (by decide +kernel)
theorem D426_257 {g : im_g} : im_D g 426 257 (.ireturn) 258 := im_D.of (by decide +kernel)
theorem D427_0 {g : im_g} : im_D g 427 0 (.aload_n 0) 1 := im_D.of (by decide +kernel)
theorem D427_1 {g : im_g} : im_D g 427 1 (.iconst 1) 2 := im_D.of (by decide +kernel)
theorem D427_2 {g : im_g} : im_D g 427 2 (.iconst 1) 3 := im_D.of (by decide +kernel)
theorem D427_3 {g : im_g} : im_D g 427 3 (.iconst 1) 4 := im_D.of (by decide +kernel)
theorem D427_4 {g : im_g} : im_D g 427 4 (.iconst 1) 5 := im_D.of (by decide +kernel)
theorem D427_5 {g : im_g} : im_D g 427 5 (.invokevirtual 419) 8 := im_D.of (by decide +kernel)
theorem D427_8 {g : im_g} : im_D g 427 8 (.ifCond .eq 10) 11 := im_D.of (by decide +kernel)
theorem D427_11 {g : im_g} : im_D g 427 11 (.aload_n 0) 12 := im_D.of (by decide +kernel)
theorem D427_12 {g : im_g} : im_D g 427 12 (.getfield 1032) 15 := im_D.of (by decide +kernel)
theorem D427_15 {g : im_g} : im_D g 427 15 (.goto 4) 18 := im_D.of (by decide +kernel)
theorem D427_18 {g : im_g} : im_D g 427 18 (.iconst 0) 19 := im_D.of (by decide +kernel)
theorem D427_19 {g : im_g} : im_D g 427 19 (.ireturn) 20 := im_D.of (by decide +kernel)
set_option maxRecDepth 20000 in
set_option maxHeartbeats 4000000 in
theorem b_doMint_0 {g : im_g} {d : Nat} {e : im_E} {M : im_M} {K : im_K} {p1 p3 : Int} (hd : 1 ≤ d) (hP : im_T g (d - 1) 423 0 [some (.ref 6952), some (vL p3), none, none] [] e M (im_ri (fun x2 e_ M1 => e = e_ ∧ (im_i32 x2) ∧ ((¬ x2 = (-1) → (0 ≤ x2 ∧ x2 < 60) ∧ (im_i64 p3) ∧ im_T g (d - 1) 340 0 [some (.ref 6952), some (.ref 7046), some (vI x2), some (vI (M1 6952 149)), none] [] e (im_u M1 7045 x2 p3) (im_r0 (fun  e_ M9 => e = e_ ∧ im_T g (d - 1) 370 0 [some (.ref 6952), some (vL p1), none, some (vL p3), none, none] [] e M9 (im_ri (fun x11 e_ M10 => e = e_ ∧ (im_i32 x11) ∧ ((¬ x11 = (-1) → (0 ≤ x11 ∧ x11 < 60) ∧ (im_i64 p1) ∧ im_T g (d - 1) 340 0 [some (.ref 6952), some (.ref 7044), some (vI x11), some (vI (M10 6952 150)), none] [] e (im_u (im_u M10 7042 x11 p1) 7043 x11 p3) (im_r0 (fun  e_ M18 => e = e_ ∧ K (.inl (some (vI 0))) e M18))) ∧ (x11 = (-1) → (im_i32 ((M10 6952 130) + 1)) ∧ (0 ≤ (M10 6952 130) ∧ (M10 6952 130) < 60) ∧ (im_i64 p1) ∧ im_T g (d - 1) 340 0 [some (.ref 6952), some (.ref 7044), some (vI (M10 6952 130)), some (vI (M10 6952 150)), none] [] e (im_u (im_u (im_u M10 6952 130 ((M10 6952 130) + 1)) 7042 (M10 6952 130) p1) 7043 (M10 6952 130) p3) (im_r0 (fun  e_ M25 => e = e_ ∧ K (.inl (some (vI 0))) e M25))))))))) ∧ (x2 = (-1) → (im_i32 ((M1 6952 134) + 1)) ∧ (0 ≤ (M1 6952 134) ∧ (M1 6952 134) < 60) ∧ (im_i64 p3) ∧ im_T g (d - 1) 340 0 [some (.ref 6952), some (.ref 7046), some (vI (M1 6952 134)), some (vI (M1 6952 149)), none] [] e (im_u (im_u M1 6952 134 ((M1 6952 134) + 1)) 7045 (M1 6952 134) p3) (im_r0 (fun  e_ M34 => e = e_ ∧ im_T g (d - 1) 370 0 [some (.ref 6952), some (vL p1), none, some (vL p3), none, none] [] e M34 (im_ri (fun x36 e_ M35 => e = e_ ∧ (im_i32 x36) ∧ ((¬ x36 = (-1) → (0 ≤ x36 ∧ x36 < 60) ∧ (im_i64 p1) ∧ im_T g (d - 1) 340 0 [some (.ref 6952), some (.ref 7044), some (vI x36), some (vI (M35 6952 150)), none] [] e (im_u (im_u M35 7042 x36 p1) 7043 x36 p3) (im_r0 (fun  e_ M43 => e = e_ ∧ K (.inl (some (vI 0))) e M43))) ∧ (x36 = (-1) → (im_i32 ((M35 6952 130) + 1)) ∧ (0 ≤ (M35 6952 130) ∧ (M35 6952 130) < 60) ∧ (im_i64 p1) ∧ im_T g (d - 1) 340 0 [some (.ref 6952), some (.ref 7044), some (vI (M35 6952 130)), some (vI (M35 6952 150)), none] [] e (im_u (im_u (im_u M35 6952 130 ((M35 6952 130) + 1)) 7042 (M35 6952 130) p1) 7043 (M35 6952 130) p3) (im_r0 (fun  e_ M50 => e = e_ ∧ K (.inl (some (vI 0))) e M50))))))))))))) : im_T g d 424 0 [some (.ref 6952), some (vL p1), none, some (vL p3), none, none, none] [] e M K := by
  refine im_ld (q := 1) (i := 0) D424_0 rfl rfl rfl ?_
  refine im_ld (q := 2) (i := 3) D424_1 rfl rfl rfl ?_
  refine im_callV (q := 5) (kd := 1) (y := 423) (n := 1) (ci := 12) (a := 6952) (vs := [.ref 6952, vL p3]) (r := []) (L2 := [some (.ref 6952), some (vL p3), none, none]) D424_2 (im_cal cn_424 cl_12_1074) (Or.inl rfl) rfl sf_6952 rfl rfl rfl rfl hd ⟨rfl, rfl, trivial⟩ ?_
  refine hP.mono ?_
  rintro _ e54 M1 ⟨x2, rfl, rfl, hP⟩
  refine im_bkS ?_
  refine im_st1 (q := 7) (i := 5) (L' := [some (.ref 6952), some (vL p1), none, some (vL p3), none, some (vI x2), none]) D424_5 (Or.inr rfl) (Nat.le_of_ble_eq_true rfl) rfl ?_
  refine im_ld (q := 9) (i := 5) D424_7 rfl rfl rfl ?_
  refine im_iconst (q := 10) D424_9 ?_
  obtain ⟨hg3, hP⟩ := hP
  refine im_icmp (q := 13) (t := 29) D424_10 rfl hg3 (by decide) (fun hc4 => ?_) (fun hc4 => ?_)
  · replace hP := hP.1 hc4
    refine im_ld (q := 30) (i := 0) D424_29 rfl rfl rfl ?_
    refine im_gfR (q := 33) (b := 7045) D424_30 (im_fl cn_424 fl_12_291) sf_6952 rfl rfl tR_12_135 rf_6952_135 ?_
    refine im_ld (q := 35) (i := 5) D424_33 rfl rfl rfl ?_
    refine im_ld (q := 36) (i := 3) D424_35 rfl rfl rfl ?_
    obtain ⟨hg6, hP⟩ := hP
    obtain ⟨hg7, hP⟩ := hP
    refine im_last (q := 37) D424_36 sf_7045 hg6.1 hg6.2 (by decide) hg7 ?_
    refine im_ld (q := 38) (i := 0) D424_37 rfl rfl rfl ?_
    refine im_ld (q := 39) (i := 0) D424_38 rfl rfl rfl ?_
    refine im_gfR (q := 42) (b := 7046) D424_39 (im_fl cn_424 fl_12_294) sf_6952 rfl rfl tR_12_136 rf_6952_136 ?_
    refine im_ld (q := 44) (i := 5) D424_42 rfl rfl rfl ?_
    refine im_ld (q := 45) (i := 0) D424_44 rfl rfl rfl ?_
    refine im_rng (j := 149) sf_6952 (by decide) (by decide) (fun hr8 => ?_)
    refine im_gfI (q := 48) D424_45 (im_fl cn_424 fl_12_1077) sf_6952 rfl rfl tI_12_149 (im_rdn _ _ _ _ (by decide)) ?_
    refine im_callV (q := 51) (kd := 1) (y := 340) (n := 3) (ci := 12) (a := 6952) (vs := [.ref 6952, .ref 7046, vI x2, vI (M1 6952 149)]) (r := []) (L2 := [some (.ref 6952), some (.ref 7046), some (vI x2), some (vI (M1 6952 149)), none]) D424_48 (im_cal cn_424 cl_12_816) (Or.inl rfl) rfl sf_6952 rfl rfl rfl rfl hd ⟨rfl, rfl, rfl, rfl, trivial⟩ ?_
    refine hP.mono ?_
    rintro _ e28 M9 ⟨rfl, rfl, hP⟩
    refine im_bkN ?_
    refine im_ld (q := 52) (i := 0) D424_51 rfl rfl rfl ?_
    refine im_ld (q := 53) (i := 1) D424_52 rfl rfl rfl ?_
    refine im_ld (q := 54) (i := 3) D424_53 rfl rfl rfl ?_
    refine im_callV (q := 57) (kd := 1) (y := 370) (n := 2) (ci := 12) (a := 6952) (vs := [.ref 6952, vL p1, vL p3]) (r := []) (L2 := [some (.ref 6952), some (vL p1), none, some (vL p3), none, none]) D424_54 (im_cal cn_424 cl_12_968) (Or.inl rfl) rfl sf_6952 rfl rfl rfl rfl hd ⟨rfl, rfl, rfl, trivial⟩ ?_
    refine hP.mono ?_
    rintro _ e27 M10 ⟨x11, rfl, rfl, hP⟩
    refine im_bkS ?_
    refine im_st1 (q := 59) (i := 6) (L' := [some (.ref 6952), some (vL p1), none, some (vL p3), none, some (vI x2), some (vI x11)]) D424_57 (Or.inr rfl) (Nat.le_of_ble_eq_true rfl) rfl ?_
    refine im_ld (q := 61) (i := 6) D424_59 rfl rfl rfl ?_
    refine im_iconst (q := 62) D424_61 ?_
    obtain ⟨hg12, hP⟩ := hP
    refine im_icmp (q := 65) (t := 81) D424_62 rfl hg12 (by decide) (fun hc13 => ?_) (fun hc13 => ?_)
    · replace hP := hP.1 hc13
      refine im_ld (q := 82) (i := 0) D424_81 rfl rfl rfl ?_
      refine im_gfR (q := 85) (b := 7042) D424_82 (im_fl cn_424 fl_12_282) sf_6952 rfl rfl tR_12_131 rf_6952_131 ?_
      refine im_ld (q := 87) (i := 6) D424_85 rfl rfl rfl ?_
      refine im_ld (q := 88) (i := 1) D424_87 rfl rfl rfl ?_
      obtain ⟨hg15, hP⟩ := hP
      obtain ⟨hg16, hP⟩ := hP
      refine im_last (q := 89) D424_88 sf_7042 hg15.1 hg15.2 (by decide) hg16 ?_
      refine im_ld (q := 90) (i := 0) D424_89 rfl rfl rfl ?_
      refine im_gfR (q := 93) (b := 7043) D424_90 (im_fl cn_424 fl_12_285) sf_6952 rfl rfl tR_12_132 rf_6952_132 ?_
      refine im_ld (q := 95) (i := 6) D424_93 rfl rfl rfl ?_
      refine im_ld (q := 96) (i := 3) D424_95 rfl rfl rfl ?_
      refine im_last (q := 97) D424_96 sf_7043 hg15.1 hg15.2 (by decide) hg7 ?_
      refine im_ld (q := 98) (i := 0) D424_97 rfl rfl rfl ?_
      refine im_ld (q := 99) (i := 0) D424_98 rfl rfl rfl ?_
      refine im_gfR (q := 102) (b := 7044) D424_99 (im_fl cn_424 fl_12_288) sf_6952 rfl rfl tR_12_133 rf_6952_133 ?_
      refine im_ld (q := 104) (i := 6) D424_102 rfl rfl rfl ?_
      refine im_ld (q := 105) (i := 0) D424_104 rfl rfl rfl ?_
      refine im_rng (j := 150) sf_6952 (by decide) (by decide) (fun hr17 => ?_)
      refine im_gfI (q := 108) D424_105 (im_fl cn_424 fl_12_1080) sf_6952 rfl rfl tI_12_150 ((im_rdn _ _ _ _ (by decide)).trans (im_rdn _ _ _ _ (by decide))) ?_
      refine im_callV (q := 111) (kd := 1) (y := 340) (n := 3) (ci := 12) (a := 6952) (vs := [.ref 6952, .ref 7044, vI x11, vI (M10 6952 150)]) (r := []) (L2 := [some (.ref 6952), some (.ref 7044), some (vI x11), some (vI (M10 6952 150)), none]) D424_108 (im_cal cn_424 cl_12_816) (Or.inl rfl) rfl sf_6952 rfl rfl rfl rfl hd ⟨rfl, rfl, rfl, rfl, trivial⟩ ?_
      refine hP.mono ?_
      rintro _ e19 M18 ⟨rfl, rfl, hP⟩
      refine im_bkN ?_
      refine im_iconst (q := 112) D424_111 ?_
      exact im_iret (q := 113) D424_112 rfl hP
    · replace hP := hP.2 (Decidable.not_not.mp hc13)
      refine im_ld (q := 66) (i := 0) D424_65 rfl rfl rfl ?_
      refine im_rng (j := 130) sf_6952 (by decide) (by decide) (fun hr14 => ?_)
      refine im_gfI (q := 69) D424_66 (im_fl cn_424 fl_12_1032) sf_6952 rfl rfl tI_12_130 rfl ?_
      refine im_st1 (q := 71) (i := 6) (L' := [some (.ref 6952), some (vL p1), none, some (vL p3), none, some (vI x2), some (vI (M10 6952 130))]) D424_69 (Or.inr rfl) (Nat.le_of_ble_eq_true rfl) rfl ?_
      refine im_ld (q := 72) (i := 0) D424_71 rfl rfl rfl ?_
      refine im_dup (q := 73) D424_72 rfl ?_
      refine im_gfI (q := 76) D424_73 (im_fl cn_424 fl_12_1032) sf_6952 rfl rfl tI_12_130 rfl ?_
      refine im_iconst (q := 77) D424_76 ?_
      refine im_iadd (q := 78) D424_77 ?_
      obtain ⟨hg21, hP⟩ := hP
      refine im_pfI (q := 81) D424_78 (im_fl cn_424 fl_12_1032) sf_6952 rfl rfl ti_12_130 hg21 ?_
      refine im_ld (q := 82) (i := 0) D424_81 rfl rfl rfl ?_
      refine im_gfR (q := 85) (b := 7042) D424_82 (im_fl cn_424 fl_12_282) sf_6952 rfl rfl tR_12_131 rf_6952_131 ?_
      refine im_ld (q := 87) (i := 6) D424_85 rfl rfl rfl ?_
      refine im_ld (q := 88) (i := 1) D424_87 rfl rfl rfl ?_
      obtain ⟨hg22, hP⟩ := hP
      obtain ⟨hg23, hP⟩ := hP
      refine im_last (q := 89) D424_88 sf_7042 hg22.1 hg22.2 (by decide) hg23 ?_
      refine im_ld (q := 90) (i := 0) D424_89 rfl rfl rfl ?_
      refine im_gfR (q := 93) (b := 7043) D424_90 (im_fl cn_424 fl_12_285) sf_6952 rfl rfl tR_12_132 rf_6952_132 ?_
      refine im_ld (q := 95) (i := 6) D424_93 rfl rfl rfl ?_
      refine im_ld (q := 96) (i := 3) D424_95 rfl rfl rfl ?_
      refine im_last (q := 97) D424_96 sf_7043 hg22.1 hg22.2 (by decide) hg7 ?_
      refine im_ld (q := 98) (i := 0) D424_97 rfl rfl rfl ?_
      refine im_ld (q := 99) (i := 0) D424_98 rfl rfl rfl ?_
      refine im_gfR (q := 102) (b := 7044) D424_99 (im_fl cn_424 fl_12_288) sf_6952 rfl rfl tR_12_133 rf_6952_133 ?_
      refine im_ld (q := 104) (i := 6) D424_102 rfl rfl rfl ?_
      refine im_ld (q := 105) (i := 0) D424_104 rfl rfl rfl ?_
      refine im_rng (j := 150) sf_6952 (by decide) (by decide) (fun hr24 => ?_)
      refine im_gfI (q := 108) D424_105 (im_fl cn_424 fl_12_1080) sf_6952 rfl rfl tI_12_150 ((im_rdn _ _ _ _ (by decide)).trans ((im_rdn _ _ _ _ (by decide)).trans (im_rdk _ _ _ (by decide)))) ?_
      refine im_callV (q := 111) (kd := 1) (y := 340) (n := 3) (ci := 12) (a := 6952) (vs := [.ref 6952, .ref 7044, vI (M10 6952 130), vI (M10 6952 150)]) (r := []) (L2 := [some (.ref 6952), some (.ref 7044), some (vI (M10 6952 130)), some (vI (M10 6952 150)), none]) D424_108 (im_cal cn_424 cl_12_816) (Or.inl rfl) rfl sf_6952 rfl rfl rfl rfl hd ⟨rfl, rfl, rfl, rfl, trivial⟩ ?_
      refine hP.mono ?_
      rintro _ e26 M25 ⟨rfl, rfl, hP⟩
      refine im_bkN ?_
      refine im_iconst (q := 112) D424_111 ?_
      exact im_iret (q := 113) D424_112 rfl hP
  · replace hP := hP.2 (Decidable.not_not.mp hc4)
    refine im_ld (q := 14) (i := 0) D424_13 rfl rfl rfl ?_
    refine im_rng (j := 134) sf_6952 (by decide) (by decide) (fun hr5 => ?_)
    refine im_gfI (q := 17) D424_14 (im_fl cn_424 fl_12_1071) sf_6952 rfl rfl tI_12_134 rfl ?_
    refine im_st1 (q := 19) (i := 5) (L' := [some (.ref 6952), some (vL p1), none, some (vL p3), none, some (vI (M1 6952 134)), none]) D424_17 (Or.inr rfl) (Nat.le_of_ble_eq_true rfl) rfl ?_
    refine im_ld (q := 20) (i := 0) D424_19 rfl rfl rfl ?_
    refine im_dup (q := 21) D424_20 rfl ?_
    refine im_gfI (q := 24) D424_21 (im_fl cn_424 fl_12_1071) sf_6952 rfl rfl tI_12_134 rfl ?_
    refine im_iconst (q := 25) D424_24 ?_
    refine im_iadd (q := 26) D424_25 ?_
    obtain ⟨hg30, hP⟩ := hP
    refine im_pfI (q := 29) D424_26 (im_fl cn_424 fl_12_1071) sf_6952 rfl rfl ti_12_134 hg30 ?_
    refine im_ld (q := 30) (i := 0) D424_29 rfl rfl rfl ?_
    refine im_gfR (q := 33) (b := 7045) D424_30 (im_fl cn_424 fl_12_291) sf_6952 rfl rfl tR_12_135 rf_6952_135 ?_
    refine im_ld (q := 35) (i := 5) D424_33 rfl rfl rfl ?_
    refine im_ld (q := 36) (i := 3) D424_35 rfl rfl rfl ?_
    obtain ⟨hg31, hP⟩ := hP
    obtain ⟨hg32, hP⟩ := hP
    refine im_last (q := 37) D424_36 sf_7045 hg31.1 hg31.2 (by decide) hg32 ?_
    refine im_ld (q := 38) (i := 0) D424_37 rfl rfl rfl ?_
    refine im_ld (q := 39) (i := 0) D424_38 rfl rfl rfl ?_
    refine im_gfR (q := 42) (b := 7046) D424_39 (im_fl cn_424 fl_12_294) sf_6952 rfl rfl tR_12_136 rf_6952_136 ?_
    refine im_ld (q := 44) (i := 5) D424_42 rfl rfl rfl ?_
    refine im_ld (q := 45) (i := 0) D424_44 rfl rfl rfl ?_
    refine im_rng (j := 149) sf_6952 (by decide) (by decide) (fun hr33 => ?_)
    refine im_gfI (q := 48) D424_45 (im_fl cn_424 fl_12_1077) sf_6952 rfl rfl tI_12_149 ((im_rdn _ _ _ _ (by decide)).trans (im_rdk _ _ _ (by decide))) ?_
    refine im_callV (q := 51) (kd := 1) (y := 340) (n := 3) (ci := 12) (a := 6952) (vs := [.ref 6952, .ref 7046, vI (M1 6952 134), vI (M1 6952 149)]) (r := []) (L2 := [some (.ref 6952), some (.ref 7046), some (vI (M1 6952 134)), some (vI (M1 6952 149)), none]) D424_48 (im_cal cn_424 cl_12_816) (Or.inl rfl) rfl sf_6952 rfl rfl rfl rfl hd ⟨rfl, rfl, rfl, rfl, trivial⟩ ?_
    refine hP.mono ?_
    rintro _ e53 M34 ⟨rfl, rfl, hP⟩
    refine im_bkN ?_
    refine im_ld (q := 52) (i := 0) D424_51 rfl rfl rfl ?_
    refine im_ld (q := 53) (i := 1) D424_52 rfl rfl rfl ?_
    refine im_ld (q := 54) (i := 3) D424_53 rfl rfl rfl ?_
    refine im_callV (q := 57) (kd := 1) (y := 370) (n := 2) (ci := 12) (a := 6952) (vs := [.ref 6952, vL p1, vL p3]) (r := []) (L2 := [some (.ref 6952), some (vL p1), none, some (vL p3), none, none]) D424_54 (im_cal cn_424 cl_12_968) (Or.inl rfl) rfl sf_6952 rfl rfl rfl rfl hd ⟨rfl, rfl, rfl, trivial⟩ ?_
    refine hP.mono ?_
    rintro _ e52 M35 ⟨x36, rfl, rfl, hP⟩
    refine im_bkS ?_
    refine im_st1 (q := 59) (i := 6) (L' := [some (.ref 6952), some (vL p1), none, some (vL p3), none, some (vI (M1 6952 134)), some (vI x36)]) D424_57 (Or.inr rfl) (Nat.le_of_ble_eq_true rfl) rfl ?_
    refine im_ld (q := 61) (i := 6) D424_59 rfl rfl rfl ?_
    refine im_iconst (q := 62) D424_61 ?_
    obtain ⟨hg37, hP⟩ := hP
    refine im_icmp (q := 65) (t := 81) D424_62 rfl hg37 (by decide) (fun hc38 => ?_) (fun hc38 => ?_)
    · replace hP := hP.1 hc38
      refine im_ld (q := 82) (i := 0) D424_81 rfl rfl rfl ?_
      refine im_gfR (q := 85) (b := 7042) D424_82 (im_fl cn_424 fl_12_282) sf_6952 rfl rfl tR_12_131 rf_6952_131 ?_
      refine im_ld (q := 87) (i := 6) D424_85 rfl rfl rfl ?_
      refine im_ld (q := 88) (i := 1) D424_87 rfl rfl rfl ?_
      obtain ⟨hg40, hP⟩ := hP
      obtain ⟨hg41, hP⟩ := hP
      refine im_last (q := 89) D424_88 sf_7042 hg40.1 hg40.2 (by decide) hg41 ?_
      refine im_ld (q := 90) (i := 0) D424_89 rfl rfl rfl ?_
      refine im_gfR (q := 93) (b := 7043) D424_90 (im_fl cn_424 fl_12_285) sf_6952 rfl rfl tR_12_132 rf_6952_132 ?_
      refine im_ld (q := 95) (i := 6) D424_93 rfl rfl rfl ?_
      refine im_ld (q := 96) (i := 3) D424_95 rfl rfl rfl ?_
      refine im_last (q := 97) D424_96 sf_7043 hg40.1 hg40.2 (by decide) hg32 ?_
      refine im_ld (q := 98) (i := 0) D424_97 rfl rfl rfl ?_
      refine im_ld (q := 99) (i := 0) D424_98 rfl rfl rfl ?_
      refine im_gfR (q := 102) (b := 7044) D424_99 (im_fl cn_424 fl_12_288) sf_6952 rfl rfl tR_12_133 rf_6952_133 ?_
      refine im_ld (q := 104) (i := 6) D424_102 rfl rfl rfl ?_
      refine im_ld (q := 105) (i := 0) D424_104 rfl rfl rfl ?_
      refine im_rng (j := 150) sf_6952 (by decide) (by decide) (fun hr42 => ?_)
      refine im_gfI (q := 108) D424_105 (im_fl cn_424 fl_12_1080) sf_6952 rfl rfl tI_12_150 ((im_rdn _ _ _ _ (by decide)).trans (im_rdn _ _ _ _ (by decide))) ?_
      refine im_callV (q := 111) (kd := 1) (y := 340) (n := 3) (ci := 12) (a := 6952) (vs := [.ref 6952, .ref 7044, vI x36, vI (M35 6952 150)]) (r := []) (L2 := [some (.ref 6952), some (.ref 7044), some (vI x36), some (vI (M35 6952 150)), none]) D424_108 (im_cal cn_424 cl_12_816) (Or.inl rfl) rfl sf_6952 rfl rfl rfl rfl hd ⟨rfl, rfl, rfl, rfl, trivial⟩ ?_
      refine hP.mono ?_
      rintro _ e44 M43 ⟨rfl, rfl, hP⟩
      refine im_bkN ?_
      refine im_iconst (q := 112) D424_111 ?_
      exact im_iret (q := 113) D424_112 rfl hP
    · replace hP := hP.2 (Decidable.not_not.mp hc38)
      refine im_ld (q := 66) (i := 0) D424_65 rfl rfl rfl ?_
      refine im_rng (j := 130) sf_6952 (by decide) (by decide) (fun hr39 => ?_)
      refine im_gfI (q := 69) D424_66 (im_fl cn_424 fl_12_1032) sf_6952 rfl rfl tI_12_130 rfl ?_
      refine im_st1 (q := 71) (i := 6) (L' := [some (.ref 6952), some (vL p1), none, some (vL p3), none, some (vI (M1 6952 134)), some (vI (M35 6952 130))]) D424_69 (Or.inr rfl) (Nat.le_of_ble_eq_true rfl) rfl ?_
      refine im_ld (q := 72) (i := 0) D424_71 rfl rfl rfl ?_
      refine im_dup (q := 73) D424_72 rfl ?_
      refine im_gfI (q := 76) D424_73 (im_fl cn_424 fl_12_1032) sf_6952 rfl rfl tI_12_130 rfl ?_
      refine im_iconst (q := 77) D424_76 ?_
      refine im_iadd (q := 78) D424_77 ?_
      obtain ⟨hg46, hP⟩ := hP
      refine im_pfI (q := 81) D424_78 (im_fl cn_424 fl_12_1032) sf_6952 rfl rfl ti_12_130 hg46 ?_
      refine im_ld (q := 82) (i := 0) D424_81 rfl rfl rfl ?_
      refine im_gfR (q := 85) (b := 7042) D424_82 (im_fl cn_424 fl_12_282) sf_6952 rfl rfl tR_12_131 rf_6952_131 ?_
      refine im_ld (q := 87) (i := 6) D424_85 rfl rfl rfl ?_
      refine im_ld (q := 88) (i := 1) D424_87 rfl rfl rfl ?_
      obtain ⟨hg47, hP⟩ := hP
      obtain ⟨hg48, hP⟩ := hP
      refine im_last (q := 89) D424_88 sf_7042 hg47.1 hg47.2 (by decide) hg48 ?_
      refine im_ld (q := 90) (i := 0) D424_89 rfl rfl rfl ?_
      refine im_gfR (q := 93) (b := 7043) D424_90 (im_fl cn_424 fl_12_285) sf_6952 rfl rfl tR_12_132 rf_6952_132 ?_
      refine im_ld (q := 95) (i := 6) D424_93 rfl rfl rfl ?_
      refine im_ld (q := 96) (i := 3) D424_95 rfl rfl rfl ?_
      refine im_last (q := 97) D424_96 sf_7043 hg47.1 hg47.2 (by decide) hg32 ?_
      refine im_ld (q := 98) (i := 0) D424_97 rfl rfl rfl ?_
      refine im_ld (q := 99) (i := 0) D424_98 rfl rfl rfl ?_
      refine im_gfR (q := 102) (b := 7044) D424_99 (im_fl cn_424 fl_12_288) sf_6952 rfl rfl tR_12_133 rf_6952_133 ?_
      refine im_ld (q := 104) (i := 6) D424_102 rfl rfl rfl ?_
      refine im_ld (q := 105) (i := 0) D424_104 rfl rfl rfl ?_
      refine im_rng (j := 150) sf_6952 (by decide) (by decide) (fun hr49 => ?_)
      refine im_gfI (q := 108) D424_105 (im_fl cn_424 fl_12_1080) sf_6952 rfl rfl tI_12_150 ((im_rdn _ _ _ _ (by decide)).trans ((im_rdn _ _ _ _ (by decide)).trans (im_rdk _ _ _ (by decide)))) ?_
      refine im_callV (q := 111) (kd := 1) (y := 340) (n := 3) (ci := 12) (a := 6952) (vs := [.ref 6952, .ref 7044, vI (M35 6952 130), vI (M35 6952 150)]) (r := []) (L2 := [some (.ref 6952), some (.ref 7044), some (vI (M35 6952 130)), some (vI (M35 6952 150)), none]) D424_108 (im_cal cn_424 cl_12_816) (Or.inl rfl) rfl sf_6952 rfl rfl rfl rfl hd ⟨rfl, rfl, rfl, rfl, trivial⟩ ?_
      refine hP.mono ?_
      rintro _ e51 M50 ⟨rfl, rfl, hP⟩
      refine im_bkN ?_
      refine im_iconst (q := 112) D424_111 ?_
      exact im_iret (q := 113) D424_112 rfl hP
set_option maxRecDepth 20000 in
set_option maxHeartbeats 4000000 in
theorem b_wallet_0 {g : im_g} {d : Nat} {e : im_E} {M : im_M} {K : im_K} {p1 p3 : Int} (hd : 1 ≤ d) (hP : im_T g (d - 1) 333 0 [some (vL p1), none, none, none, none, none, none] [] e M (im_ri (fun x2 e_ M1 => e = e_ ∧ (im_i32 x2) ∧ ((x2 = 0 → im_T g (d - 1) 264 0 [some (.ref 6952), some (vI 2), some (vI 0), some (vI 1), some (vI 1)] [] e M1 (im_ri (fun x6 e_ M5 => e = e_ ∧ (im_i32 x6) ∧ ((¬ x6 = 0 → im_T g (d - 1) 362 0 [some (.ref 6952), none] [] e (im_u M5 6952 7 (M5 6952 6)) (im_r0 (fun  e_ M10 => e = e_ ∧ im_T g (d - 1) 370 0 [some (.ref 6952), some (vL p1), none, some (vL p3), none, none] [] e M10 (im_ri (fun x12 e_ M11 => e = e_ ∧ (im_i32 x12) ∧ ((¬ x12 = (-1) → (0 ≤ x12 ∧ x12 < 61) ∧ im_T g (d - 1) 324 0 [some (.ref 6952), some (vI (M11 7033 x12)), none] [] e (im_u M11 6952 4 0) (im_r0 (fun  e_ M17 => e = e_ ∧ K (.inl (some (vI (M17 6952 4)))) e M17))) ∧ (x12 = (-1) → im_T g (d - 1) 386 0 [some (.ref 6952), none] [] e (im_u M11 6952 4 0) (im_ri (fun x21 e_ M20 => e = e_ ∧ im_T g (d - 1) 324 0 [some (.ref 6952), some (vI x21), none] [] e M20 (im_r0 (fun  e_ M22 => e = e_ ∧ K (.inl (some (vI (M22 6952 4)))) e M22))))))))))) ∧ (x6 = 0 → K (.inl (some (vI 0))) e M5))))) ∧ (¬ x2 = 0 → im_T g (d - 1) 333 0 [some (vL p3), none, none, none, none, none, none] [] e M1 (im_ri (fun x30 e_ M29 => e = e_ ∧ (im_i32 x30) ∧ ((x30 = 0 → im_T g (d - 1) 264 0 [some (.ref 6952), some (vI 2), some (vI 0), some (vI 1), some (vI 1)] [] e M29 (im_ri (fun x34 e_ M33 => e = e_ ∧ (im_i32 x34) ∧ ((¬ x34 = 0 → im_T g (d - 1) 362 0 [some (.ref 6952), none] [] e (im_u M33 6952 7 (M33 6952 6)) (im_r0 (fun  e_ M38 => e = e_ ∧ im_T g (d - 1) 370 0 [some (.ref 6952), some (vL p1), none, some (vL p3), none, none] [] e M38 (im_ri (fun x40 e_ M39 => e = e_ ∧ (im_i32 x40) ∧ ((¬ x40 = (-1) → (0 ≤ x40 ∧ x40 < 61) ∧ im_T g (d - 1) 324 0 [some (.ref 6952), some (vI (M39 7033 x40)), none] [] e (im_u M39 6952 4 0) (im_r0 (fun  e_ M45 => e = e_ ∧ K (.inl (some (vI (M45 6952 4)))) e M45))) ∧ (x40 = (-1) → im_T g (d - 1) 386 0 [some (.ref 6952), none] [] e (im_u M39 6952 4 0) (im_ri (fun x49 e_ M48 => e = e_ ∧ im_T g (d - 1) 324 0 [some (.ref 6952), some (vI x49), none] [] e M48 (im_r0 (fun  e_ M50 => e = e_ ∧ K (.inl (some (vI (M50 6952 4)))) e M50))))))))))) ∧ (x34 = 0 → K (.inl (some (vI 0))) e M33))))) ∧ (¬ x30 = 0 → im_T g (d - 1) 264 0 [some (.ref 6952), some (vI 2), some (vI 1), some (vI 1), some (vI 1)] [] e M29 (im_ri (fun x58 e_ M57 => e = e_ ∧ (im_i32 x58) ∧ ((¬ x58 = 0 → im_T g (d - 1) 362 0 [some (.ref 6952), none] [] e (im_u M57 6952 7 (M57 6952 6)) (im_r0 (fun  e_ M62 => e = e_ ∧ im_T g (d - 1) 370 0 [some (.ref 6952), some (vL p1), none, some (vL p3), none, none] [] e M62 (im_ri (fun x64 e_ M63 => e = e_ ∧ (im_i32 x64) ∧ ((¬ x64 = (-1) → (0 ≤ x64 ∧ x64 < 61) ∧ im_T g (d - 1) 324 0 [some (.ref 6952), some (vI (M63 7033 x64)), none] [] e (im_u M63 6952 4 0) (im_r0 (fun  e_ M69 => e = e_ ∧ K (.inl (some (vI (M69 6952 4)))) e M69))) ∧ (x64 = (-1) → im_T g (d - 1) 386 0 [some (.ref 6952), none] [] e (im_u M63 6952 4 0) (im_ri (fun x73 e_ M72 => e = e_ ∧ im_T g (d - 1) 324 0 [some (.ref 6952), some (vI x73), none] [] e M72 (im_r0 (fun  e_ M74 => e = e_ ∧ K (.inl (some (vI (M74 6952 4)))) e M74))))))))))) ∧ (x58 = 0 → K (.inl (some (vI 0))) e M57))))))))))))) : im_T g d 425 0 [some (.ref 6952), some (vL p1), none, some (vL p3), none, none] [] e M K := by
  refine im_ld (q := 1) (i := 0) D425_0 rfl rfl rfl ?_
  refine im_iconst (q := 2) D425_1 ?_
  refine im_ld (q := 3) (i := 1) D425_2 rfl rfl rfl ?_
  refine im_callS (q := 6) (kd := 0) (y := 333) (n := 1) (z := 12) (vs := [vL p1]) (r := [vI 2, .ref 6952]) (L2 := [some (vL p1), none, none, none, none, none, none]) D425_3 rfl (im_cal cn_425 cl_12_800) (Or.inl rfl) rfl rfl rfl rfl rfl hd ⟨rfl, trivial⟩ ?_
  refine hP.mono ?_
  rintro _ e82 M1 ⟨x2, rfl, rfl, hP⟩
  refine im_bkS ?_
  obtain ⟨hg3, hP⟩ := hP
  refine im_ifc (q := 9) (t := 20) D425_6 rfl hg3 (fun hc4 => ?_) (fun hc4 => ?_)
  · replace hP := hP.1 hc4
    refine im_iconst (q := 21) D425_20 ?_
    refine im_iconst (q := 22) D425_21 ?_
    refine im_iconst (q := 23) D425_22 ?_
    refine im_callV (q := 26) (kd := 1) (y := 264) (n := 4) (ci := 12) (a := 6952) (vs := [.ref 6952, vI 2, vI 0, vI 1, vI 1]) (r := []) (L2 := [some (.ref 6952), some (vI 2), some (vI 0), some (vI 1), some (vI 1)]) D425_23 (im_cal cn_425 cl_12_419) (Or.inl rfl) rfl sf_6952 rfl rfl rfl rfl hd ⟨rfl, rfl, rfl, rfl, rfl, trivial⟩ ?_
    refine hP.mono ?_
    rintro _ e28 M5 ⟨x6, rfl, rfl, hP⟩
    refine im_bkS ?_
    obtain ⟨hg7, hP⟩ := hP
    refine im_ifc (q := 29) (t := 31) D425_26 rfl hg7 (fun hc8 => ?_) (fun hc8 => ?_)
    · replace hP := hP.1 hc8
      refine im_ld (q := 32) (i := 0) D425_31 rfl rfl rfl ?_
      refine im_ld (q := 33) (i := 0) D425_32 rfl rfl rfl ?_
      refine im_rng (j := 6) sf_6952 (by decide) (by decide) (fun hr9 => ?_)
      refine im_gfI (q := 36) D425_33 (im_fl cn_425 fl_12_617) sf_6952 rfl rfl tI_12_6 rfl ?_
      refine im_pfI (q := 39) D425_36 (im_fl cn_425 fl_12_449) sf_6952 rfl rfl ti_12_7 hr9 ?_
      refine im_ld (q := 40) (i := 0) D425_39 rfl rfl rfl ?_
      refine im_callV (q := 43) (kd := 1) (y := 362) (n := 0) (ci := 12) (a := 6952) (vs := [.ref 6952]) (r := []) (L2 := [some (.ref 6952), none]) D425_40 (im_cal cn_425 cl_12_1047) (Or.inl rfl) rfl sf_6952 rfl rfl rfl rfl hd ⟨rfl, trivial⟩ ?_
      refine hP.mono ?_
      rintro _ e27 M10 ⟨rfl, rfl, hP⟩
      refine im_bkN ?_
      refine im_ld (q := 44) (i := 0) D425_43 rfl rfl rfl ?_
      refine im_ld (q := 45) (i := 1) D425_44 rfl rfl rfl ?_
      refine im_ld (q := 46) (i := 3) D425_45 rfl rfl rfl ?_
      refine im_callV (q := 49) (kd := 1) (y := 370) (n := 2) (ci := 12) (a := 6952) (vs := [.ref 6952, vL p1, vL p3]) (r := []) (L2 := [some (.ref 6952), some (vL p1), none, some (vL p3), none, none]) D425_46 (im_cal cn_425 cl_12_968) (Or.inl rfl) rfl sf_6952 rfl rfl rfl rfl hd ⟨rfl, rfl, rfl, trivial⟩ ?_
      refine hP.mono ?_
      rintro _ e26 M11 ⟨x12, rfl, rfl, hP⟩
      refine im_bkS ?_
      refine im_st1 (q := 51) (i := 5) (L' := [some (.ref 6952), some (vL p1), none, some (vL p3), none, some (vI x12)]) D425_49 (Or.inr rfl) (Nat.le_of_ble_eq_true rfl) rfl ?_
      refine im_ld (q := 52) (i := 0) D425_51 rfl rfl rfl ?_
      refine im_iconst (q := 53) D425_52 ?_
      refine im_pfI (q := 56) D425_53 (im_fl cn_425 fl_12_423) sf_6952 rfl rfl ti_12_4 (by decide) ?_
      refine im_ld (q := 57) (i := 0) D425_56 rfl rfl rfl ?_
      refine im_ld (q := 59) (i := 5) D425_57 rfl rfl rfl ?_
      refine im_iconst (q := 60) D425_59 ?_
      obtain ⟨hg13, hP⟩ := hP
      refine im_icmp (q := 63) (t := 70) D425_60 rfl hg13 (by decide) (fun hc14 => ?_) (fun hc14 => ?_)
      · replace hP := hP.1 hc14
        refine im_ld (q := 71) (i := 0) D425_70 rfl rfl rfl ?_
        refine im_gfR (q := 74) (b := 7033) D425_71 (im_fl cn_425 fl_12_255) sf_6952 rfl rfl tR_12_119 rf_6952_119 ?_
        refine im_ld (q := 76) (i := 5) D425_74 rfl rfl rfl ?_
        obtain ⟨hg15, hP⟩ := hP
        refine im_rng (j := x12) sf_7033 hg15.1 hg15.2 (fun hr16 => ?_)
        refine im_iald (q := 77) D425_76 sf_7033 hg15.1 hg15.2 (by decide) (im_rdn _ _ _ _ (by decide)) ?_
        refine im_callV (q := 80) (kd := 1) (y := 324) (n := 1) (ci := 12) (a := 6952) (vs := [.ref 6952, vI (M11 7033 x12)]) (r := []) (L2 := [some (.ref 6952), some (vI (M11 7033 x12)), none]) D425_77 (im_cal cn_425 cl_12_756) (Or.inl rfl) rfl sf_6952 rfl rfl rfl rfl hd ⟨rfl, rfl, trivial⟩ ?_
        refine hP.mono ?_
        rintro _ e19 M17 ⟨rfl, rfl, hP⟩
        refine im_bkN ?_
        refine im_ld (q := 81) (i := 0) D425_80 rfl rfl rfl ?_
        refine im_rng (j := 4) sf_6952 (by decide) (by decide) (fun hr18 => ?_)
        refine im_gfI (q := 84) D425_81 (im_fl cn_425 fl_12_423) sf_6952 rfl rfl tI_12_4 rfl ?_
        exact im_iret (q := 85) D425_84 rfl hP
      · replace hP := hP.2 (Decidable.not_not.mp hc14)
        refine im_ld (q := 64) (i := 0) D425_63 rfl rfl rfl ?_
        refine im_callV (q := 67) (kd := 1) (y := 386) (n := 0) (ci := 12) (a := 6952) (vs := [.ref 6952]) (r := [.ref 6952]) (L2 := [some (.ref 6952), none]) D425_64 (im_cal cn_425 cl_12_493) (Or.inl rfl) rfl sf_6952 rfl rfl rfl rfl hd ⟨rfl, trivial⟩ ?_
        refine hP.mono ?_
        rintro _ e25 M20 ⟨x21, rfl, rfl, hP⟩
        refine im_bkS ?_
        refine im_goto (q := 70) (t := 77) D425_67 rfl ?_
        refine im_callV (q := 80) (kd := 1) (y := 324) (n := 1) (ci := 12) (a := 6952) (vs := [.ref 6952, vI x21]) (r := []) (L2 := [some (.ref 6952), some (vI x21), none]) D425_77 (im_cal cn_425 cl_12_756) (Or.inl rfl) rfl sf_6952 rfl rfl rfl rfl hd ⟨rfl, rfl, trivial⟩ ?_
        refine hP.mono ?_
        rintro _ e24 M22 ⟨rfl, rfl, hP⟩
        refine im_bkN ?_
        refine im_ld (q := 81) (i := 0) D425_80 rfl rfl rfl ?_
        refine im_rng (j := 4) sf_6952 (by decide) (by decide) (fun hr23 => ?_)
        refine im_gfI (q := 84) D425_81 (im_fl cn_425 fl_12_423) sf_6952 rfl rfl tI_12_4 rfl ?_
        exact im_iret (q := 85) D425_84 rfl hP
    · replace hP := hP.2 (Decidable.not_not.mp hc8)
      refine im_iconst (q := 30) D425_29 ?_
      exact im_iret (q := 31) D425_30 rfl hP
  · replace hP := hP.2 hc4
    refine im_ld (q := 10) (i := 3) D425_9 rfl rfl rfl ?_
    refine im_callS (q := 13) (kd := 0) (y := 333) (n := 1) (z := 12) (vs := [vL p3]) (r := [vI 2, .ref 6952]) (L2 := [some (vL p3), none, none, none, none, none, none]) D425_10 rfl (im_cal cn_425 cl_12_800) (Or.inl rfl) rfl rfl rfl rfl rfl hd ⟨rfl, trivial⟩ ?_
    refine hP.mono ?_
    rintro _ e81 M29 ⟨x30, rfl, rfl, hP⟩
    refine im_bkS ?_
    obtain ⟨hg31, hP⟩ := hP
    refine im_ifc (q := 16) (t := 20) D425_13 rfl hg31 (fun hc32 => ?_) (fun hc32 => ?_)
    · replace hP := hP.1 hc32
      refine im_iconst (q := 21) D425_20 ?_
      refine im_iconst (q := 22) D425_21 ?_
      refine im_iconst (q := 23) D425_22 ?_
      refine im_callV (q := 26) (kd := 1) (y := 264) (n := 4) (ci := 12) (a := 6952) (vs := [.ref 6952, vI 2, vI 0, vI 1, vI 1]) (r := []) (L2 := [some (.ref 6952), some (vI 2), some (vI 0), some (vI 1), some (vI 1)]) D425_23 (im_cal cn_425 cl_12_419) (Or.inl rfl) rfl sf_6952 rfl rfl rfl rfl hd ⟨rfl, rfl, rfl, rfl, rfl, trivial⟩ ?_
      refine hP.mono ?_
      rintro _ e56 M33 ⟨x34, rfl, rfl, hP⟩
      refine im_bkS ?_
      obtain ⟨hg35, hP⟩ := hP
      refine im_ifc (q := 29) (t := 31) D425_26 rfl hg35 (fun hc36 => ?_) (fun hc36 => ?_)
      · replace hP := hP.1 hc36
        refine im_ld (q := 32) (i := 0) D425_31 rfl rfl rfl ?_
        refine im_ld (q := 33) (i := 0) D425_32 rfl rfl rfl ?_
        refine im_rng (j := 6) sf_6952 (by decide) (by decide) (fun hr37 => ?_)
        refine im_gfI (q := 36) D425_33 (im_fl cn_425 fl_12_617) sf_6952 rfl rfl tI_12_6 rfl ?_
        refine im_pfI (q := 39) D425_36 (im_fl cn_425 fl_12_449) sf_6952 rfl rfl ti_12_7 hr37 ?_
        refine im_ld (q := 40) (i := 0) D425_39 rfl rfl rfl ?_
        refine im_callV (q := 43) (kd := 1) (y := 362) (n := 0) (ci := 12) (a := 6952) (vs := [.ref 6952]) (r := []) (L2 := [some (.ref 6952), none]) D425_40 (im_cal cn_425 cl_12_1047) (Or.inl rfl) rfl sf_6952 rfl rfl rfl rfl hd ⟨rfl, trivial⟩ ?_
        refine hP.mono ?_
        rintro _ e55 M38 ⟨rfl, rfl, hP⟩
        refine im_bkN ?_
        refine im_ld (q := 44) (i := 0) D425_43 rfl rfl rfl ?_
        refine im_ld (q := 45) (i := 1) D425_44 rfl rfl rfl ?_
        refine im_ld (q := 46) (i := 3) D425_45 rfl rfl rfl ?_
        refine im_callV (q := 49) (kd := 1) (y := 370) (n := 2) (ci := 12) (a := 6952) (vs := [.ref 6952, vL p1, vL p3]) (r := []) (L2 := [some (.ref 6952), some (vL p1), none, some (vL p3), none, none]) D425_46 (im_cal cn_425 cl_12_968) (Or.inl rfl) rfl sf_6952 rfl rfl rfl rfl hd ⟨rfl, rfl, rfl, trivial⟩ ?_
        refine hP.mono ?_
        rintro _ e54 M39 ⟨x40, rfl, rfl, hP⟩
        refine im_bkS ?_
        refine im_st1 (q := 51) (i := 5) (L' := [some (.ref 6952), some (vL p1), none, some (vL p3), none, some (vI x40)]) D425_49 (Or.inr rfl) (Nat.le_of_ble_eq_true rfl) rfl ?_
        refine im_ld (q := 52) (i := 0) D425_51 rfl rfl rfl ?_
        refine im_iconst (q := 53) D425_52 ?_
        refine im_pfI (q := 56) D425_53 (im_fl cn_425 fl_12_423) sf_6952 rfl rfl ti_12_4 (by decide) ?_
        refine im_ld (q := 57) (i := 0) D425_56 rfl rfl rfl ?_
        refine im_ld (q := 59) (i := 5) D425_57 rfl rfl rfl ?_
        refine im_iconst (q := 60) D425_59 ?_
        obtain ⟨hg41, hP⟩ := hP
        refine im_icmp (q := 63) (t := 70) D425_60 rfl hg41 (by decide) (fun hc42 => ?_) (fun hc42 => ?_)
        · replace hP := hP.1 hc42
          refine im_ld (q := 71) (i := 0) D425_70 rfl rfl rfl ?_
          refine im_gfR (q := 74) (b := 7033) D425_71 (im_fl cn_425 fl_12_255) sf_6952 rfl rfl tR_12_119 rf_6952_119 ?_
          refine im_ld (q := 76) (i := 5) D425_74 rfl rfl rfl ?_
          obtain ⟨hg43, hP⟩ := hP
          refine im_rng (j := x40) sf_7033 hg43.1 hg43.2 (fun hr44 => ?_)
          refine im_iald (q := 77) D425_76 sf_7033 hg43.1 hg43.2 (by decide) (im_rdn _ _ _ _ (by decide)) ?_
          refine im_callV (q := 80) (kd := 1) (y := 324) (n := 1) (ci := 12) (a := 6952) (vs := [.ref 6952, vI (M39 7033 x40)]) (r := []) (L2 := [some (.ref 6952), some (vI (M39 7033 x40)), none]) D425_77 (im_cal cn_425 cl_12_756) (Or.inl rfl) rfl sf_6952 rfl rfl rfl rfl hd ⟨rfl, rfl, trivial⟩ ?_
          refine hP.mono ?_
          rintro _ e47 M45 ⟨rfl, rfl, hP⟩
          refine im_bkN ?_
          refine im_ld (q := 81) (i := 0) D425_80 rfl rfl rfl ?_
          refine im_rng (j := 4) sf_6952 (by decide) (by decide) (fun hr46 => ?_)
          refine im_gfI (q := 84) D425_81 (im_fl cn_425 fl_12_423) sf_6952 rfl rfl tI_12_4 rfl ?_
          exact im_iret (q := 85) D425_84 rfl hP
        · replace hP := hP.2 (Decidable.not_not.mp hc42)
          refine im_ld (q := 64) (i := 0) D425_63 rfl rfl rfl ?_
          refine im_callV (q := 67) (kd := 1) (y := 386) (n := 0) (ci := 12) (a := 6952) (vs := [.ref 6952]) (r := [.ref 6952]) (L2 := [some (.ref 6952), none]) D425_64 (im_cal cn_425 cl_12_493) (Or.inl rfl) rfl sf_6952 rfl rfl rfl rfl hd ⟨rfl, trivial⟩ ?_
          refine hP.mono ?_
          rintro _ e53 M48 ⟨x49, rfl, rfl, hP⟩
          refine im_bkS ?_
          refine im_goto (q := 70) (t := 77) D425_67 rfl ?_
          refine im_callV (q := 80) (kd := 1) (y := 324) (n := 1) (ci := 12) (a := 6952) (vs := [.ref 6952, vI x49]) (r := []) (L2 := [some (.ref 6952), some (vI x49), none]) D425_77 (im_cal cn_425 cl_12_756) (Or.inl rfl) rfl sf_6952 rfl rfl rfl rfl hd ⟨rfl, rfl, trivial⟩ ?_
          refine hP.mono ?_
          rintro _ e52 M50 ⟨rfl, rfl, hP⟩
          refine im_bkN ?_
          refine im_ld (q := 81) (i := 0) D425_80 rfl rfl rfl ?_
          refine im_rng (j := 4) sf_6952 (by decide) (by decide) (fun hr51 => ?_)
          refine im_gfI (q := 84) D425_81 (im_fl cn_425 fl_12_423) sf_6952 rfl rfl tI_12_4 rfl ?_
          exact im_iret (q := 85) D425_84 rfl hP
      · replace hP := hP.2 (Decidable.not_not.mp hc36)
        refine im_iconst (q := 30) D425_29 ?_
        exact im_iret (q := 31) D425_30 rfl hP
    · replace hP := hP.2 hc32
      refine im_iconst (q := 17) D425_16 ?_
      refine im_goto (q := 20) (t := 21) D425_17 rfl ?_
      refine im_iconst (q := 22) D425_21 ?_
      refine im_iconst (q := 23) D425_22 ?_
      refine im_callV (q := 26) (kd := 1) (y := 264) (n := 4) (ci := 12) (a := 6952) (vs := [.ref 6952, vI 2, vI 1, vI 1, vI 1]) (r := []) (L2 := [some (.ref 6952), some (vI 2), some (vI 1), some (vI 1), some (vI 1)]) D425_23 (im_cal cn_425 cl_12_419) (Or.inl rfl) rfl sf_6952 rfl rfl rfl rfl hd ⟨rfl, rfl, rfl, rfl, rfl, trivial⟩ ?_
      refine hP.mono ?_
      rintro _ e80 M57 ⟨x58, rfl, rfl, hP⟩
      refine im_bkS ?_
      obtain ⟨hg59, hP⟩ := hP
      refine im_ifc (q := 29) (t := 31) D425_26 rfl hg59 (fun hc60 => ?_) (fun hc60 => ?_)
      · replace hP := hP.1 hc60
        refine im_ld (q := 32) (i := 0) D425_31 rfl rfl rfl ?_
        refine im_ld (q := 33) (i := 0) D425_32 rfl rfl rfl ?_
        refine im_rng (j := 6) sf_6952 (by decide) (by decide) (fun hr61 => ?_)
        refine im_gfI (q := 36) D425_33 (im_fl cn_425 fl_12_617) sf_6952 rfl rfl tI_12_6 rfl ?_
        refine im_pfI (q := 39) D425_36 (im_fl cn_425 fl_12_449) sf_6952 rfl rfl ti_12_7 hr61 ?_
        refine im_ld (q := 40) (i := 0) D425_39 rfl rfl rfl ?_
        refine im_callV (q := 43) (kd := 1) (y := 362) (n := 0) (ci := 12) (a := 6952) (vs := [.ref 6952]) (r := []) (L2 := [some (.ref 6952), none]) D425_40 (im_cal cn_425 cl_12_1047) (Or.inl rfl) rfl sf_6952 rfl rfl rfl rfl hd ⟨rfl, trivial⟩ ?_
        refine hP.mono ?_
        rintro _ e79 M62 ⟨rfl, rfl, hP⟩
        refine im_bkN ?_
        refine im_ld (q := 44) (i := 0) D425_43 rfl rfl rfl ?_
        refine im_ld (q := 45) (i := 1) D425_44 rfl rfl rfl ?_
        refine im_ld (q := 46) (i := 3) D425_45 rfl rfl rfl ?_
        refine im_callV (q := 49) (kd := 1) (y := 370) (n := 2) (ci := 12) (a := 6952) (vs := [.ref 6952, vL p1, vL p3]) (r := []) (L2 := [some (.ref 6952), some (vL p1), none, some (vL p3), none, none]) D425_46 (im_cal cn_425 cl_12_968) (Or.inl rfl) rfl sf_6952 rfl rfl rfl rfl hd ⟨rfl, rfl, rfl, trivial⟩ ?_
        refine hP.mono ?_
        rintro _ e78 M63 ⟨x64, rfl, rfl, hP⟩
        refine im_bkS ?_
        refine im_st1 (q := 51) (i := 5) (L' := [some (.ref 6952), some (vL p1), none, some (vL p3), none, some (vI x64)]) D425_49 (Or.inr rfl) (Nat.le_of_ble_eq_true rfl) rfl ?_
        refine im_ld (q := 52) (i := 0) D425_51 rfl rfl rfl ?_
        refine im_iconst (q := 53) D425_52 ?_
        refine im_pfI (q := 56) D425_53 (im_fl cn_425 fl_12_423) sf_6952 rfl rfl ti_12_4 (by decide) ?_
        refine im_ld (q := 57) (i := 0) D425_56 rfl rfl rfl ?_
        refine im_ld (q := 59) (i := 5) D425_57 rfl rfl rfl ?_
        refine im_iconst (q := 60) D425_59 ?_
        obtain ⟨hg65, hP⟩ := hP
        refine im_icmp (q := 63) (t := 70) D425_60 rfl hg65 (by decide) (fun hc66 => ?_) (fun hc66 => ?_)
        · replace hP := hP.1 hc66
          refine im_ld (q := 71) (i := 0) D425_70 rfl rfl rfl ?_
          refine im_gfR (q := 74) (b := 7033) D425_71 (im_fl cn_425 fl_12_255) sf_6952 rfl rfl tR_12_119 rf_6952_119 ?_
          refine im_ld (q := 76) (i := 5) D425_74 rfl rfl rfl ?_
          obtain ⟨hg67, hP⟩ := hP
          refine im_rng (j := x64) sf_7033 hg67.1 hg67.2 (fun hr68 => ?_)
          refine im_iald (q := 77) D425_76 sf_7033 hg67.1 hg67.2 (by decide) (im_rdn _ _ _ _ (by decide)) ?_
          refine im_callV (q := 80) (kd := 1) (y := 324) (n := 1) (ci := 12) (a := 6952) (vs := [.ref 6952, vI (M63 7033 x64)]) (r := []) (L2 := [some (.ref 6952), some (vI (M63 7033 x64)), none]) D425_77 (im_cal cn_425 cl_12_756) (Or.inl rfl) rfl sf_6952 rfl rfl rfl rfl hd ⟨rfl, rfl, trivial⟩ ?_
          refine hP.mono ?_
          rintro _ e71 M69 ⟨rfl, rfl, hP⟩
          refine im_bkN ?_
          refine im_ld (q := 81) (i := 0) D425_80 rfl rfl rfl ?_
          refine im_rng (j := 4) sf_6952 (by decide) (by decide) (fun hr70 => ?_)
          refine im_gfI (q := 84) D425_81 (im_fl cn_425 fl_12_423) sf_6952 rfl rfl tI_12_4 rfl ?_
          exact im_iret (q := 85) D425_84 rfl hP
        · replace hP := hP.2 (Decidable.not_not.mp hc66)
          refine im_ld (q := 64) (i := 0) D425_63 rfl rfl rfl ?_
          refine im_callV (q := 67) (kd := 1) (y := 386) (n := 0) (ci := 12) (a := 6952) (vs := [.ref 6952]) (r := [.ref 6952]) (L2 := [some (.ref 6952), none]) D425_64 (im_cal cn_425 cl_12_493) (Or.inl rfl) rfl sf_6952 rfl rfl rfl rfl hd ⟨rfl, trivial⟩ ?_
          refine hP.mono ?_
          rintro _ e77 M72 ⟨x73, rfl, rfl, hP⟩
          refine im_bkS ?_
          refine im_goto (q := 70) (t := 77) D425_67 rfl ?_
          refine im_callV (q := 80) (kd := 1) (y := 324) (n := 1) (ci := 12) (a := 6952) (vs := [.ref 6952, vI x73]) (r := []) (L2 := [some (.ref 6952), some (vI x73), none]) D425_77 (im_cal cn_425 cl_12_756) (Or.inl rfl) rfl sf_6952 rfl rfl rfl rfl hd ⟨rfl, rfl, trivial⟩ ?_
          refine hP.mono ?_
          rintro _ e76 M74 ⟨rfl, rfl, hP⟩
          refine im_bkN ?_
          refine im_ld (q := 81) (i := 0) D425_80 rfl rfl rfl ?_
          refine im_rng (j := 4) sf_6952 (by decide) (by decide) (fun hr75 => ?_)
          refine im_gfI (q := 84) D425_81 (im_fl cn_425 fl_12_423) sf_6952 rfl rfl tI_12_4 rfl ?_
          exact im_iret (q := 85) D425_84 rfl hP
      · replace hP := hP.2 (Decidable.not_not.mp hc60)
        refine im_iconst (q := 30) D425_29 ?_
        exact im_iret (q := 31) D425_30 rfl hP
set_option maxRecDepth 20000 in
set_option maxHeartbeats 4000000 in
theorem b_total_0 {g : im_g} {d : Nat} {e : im_E} {M : im_M} {K : im_K} {p1 p3 : Int} (hd : 1 ≤ d) (hP : im_T g (d - 1) 333 0 [some (vL p1), none, none, none, none, none, none] [] e M (im_ri (fun x2 e_ M1 => e = e_ ∧ (im_i32 x2) ∧ ((x2 = 0 → im_T g (d - 1) 264 0 [some (.ref 6952), some (vI 2), some (vI 0), some (vI 1), some (vI 1)] [] e M1 (im_ri (fun x7 e_ M6 => e = e_ ∧ (im_i32 x7) ∧ ((¬ x7 = 0 → im_T g (d - 1) 386 0 [some (.ref 6952), none] [] e (im_u M6 6952 7 (M6 6952 6)) (im_ri (fun x12 e_ M11 => e = e_ ∧ im_T g d 426 53 [some (.ref 6952), some (vL p1), none, some (vI p3), some (vI x12), some (vI 0), none] [] e M11 K))) ∧ (x7 = 0 → K (.inl (some (vI 0))) e M6))))) ∧ (¬ x2 = 0 → (im_i32 p3) ∧ im_T g (d - 1) 268 0 [some (vL p3), none, some (vL 0), none, some (vL 3), none] [] e M1 (im_ri (fun x16 e_ M15 => e = e_ ∧ (im_i32 x16) ∧ ((x16 = 0 → im_T g (d - 1) 264 0 [some (.ref 6952), some (vI 2), some (vI 0), some (vI 1), some (vI 1)] [] e M15 (im_ri (fun x20 e_ M19 => e = e_ ∧ (im_i32 x20) ∧ ((¬ x20 = 0 → im_T g (d - 1) 386 0 [some (.ref 6952), none] [] e (im_u M19 6952 7 (M19 6952 6)) (im_ri (fun x25 e_ M24 => e = e_ ∧ im_T g d 426 53 [some (.ref 6952), some (vL p1), none, some (vI p3), some (vI x25), some (vI 0), none] [] e M24 K))) ∧ (x20 = 0 → K (.inl (some (vI 0))) e M19))))) ∧ (¬ x16 = 0 → im_T g (d - 1) 264 0 [some (.ref 6952), some (vI 2), some (vI 1), some (vI 1), some (vI 1)] [] e M15 (im_ri (fun x29 e_ M28 => e = e_ ∧ (im_i32 x29) ∧ ((¬ x29 = 0 → im_T g (d - 1) 386 0 [some (.ref 6952), none] [] e (im_u M28 6952 7 (M28 6952 6)) (im_ri (fun x34 e_ M33 => e = e_ ∧ im_T g d 426 53 [some (.ref 6952), some (vL p1), none, some (vI p3), some (vI x34), some (vI 0), none] [] e M33 K))) ∧ (x29 = 0 → K (.inl (some (vI 0))) e M28))))))))))))) : im_T g d 426 0 [some (.ref 6952), some (vL p1), none, some (vI p3), none, none, none] [] e M K := by
  refine im_ld (q := 1) (i := 0) D426_0 rfl rfl rfl ?_
  refine im_iconst (q := 2) D426_1 ?_
  refine im_ld (q := 3) (i := 1) D426_2 rfl rfl rfl ?_
  refine im_callS (q := 6) (kd := 0) (y := 333) (n := 1) (z := 12) (vs := [vL p1]) (r := [vI 2, .ref 6952]) (L2 := [some (vL p1), none, none, none, none, none, none]) D426_3 rfl (im_cal cn_426 cl_12_800) (Or.inl rfl) rfl rfl rfl rfl rfl hd ⟨rfl, trivial⟩ ?_
  refine hP.mono ?_
  rintro _ e38 M1 ⟨x2, rfl, rfl, hP⟩
  refine im_bkS ?_
  obtain ⟨hg3, hP⟩ := hP
  refine im_ifc (q := 9) (t := 25) D426_6 rfl hg3 (fun hc4 => ?_) (fun hc4 => ?_)
  · replace hP := hP.1 hc4
    refine im_iconst (q := 26) D426_25 ?_
    refine im_iconst (q := 27) D426_26 ?_
    refine im_iconst (q := 28) D426_27 ?_
    refine im_callV (q := 31) (kd := 1) (y := 264) (n := 4) (ci := 12) (a := 6952) (vs := [.ref 6952, vI 2, vI 0, vI 1, vI 1]) (r := []) (L2 := [some (.ref 6952), some (vI 2), some (vI 0), some (vI 1), some (vI 1)]) D426_28 (im_cal cn_426 cl_12_419) (Or.inl rfl) rfl sf_6952 rfl rfl rfl rfl hd ⟨rfl, rfl, rfl, rfl, rfl, trivial⟩ ?_
    refine hP.mono ?_
    rintro _ e14 M6 ⟨x7, rfl, rfl, hP⟩
    refine im_bkS ?_
    obtain ⟨hg8, hP⟩ := hP
    refine im_ifc (q := 34) (t := 36) D426_31 rfl hg8 (fun hc9 => ?_) (fun hc9 => ?_)
    · replace hP := hP.1 hc9
      refine im_ld (q := 37) (i := 0) D426_36 rfl rfl rfl ?_
      refine im_ld (q := 38) (i := 0) D426_37 rfl rfl rfl ?_
      refine im_rng (j := 6) sf_6952 (by decide) (by decide) (fun hr10 => ?_)
      refine im_gfI (q := 41) D426_38 (im_fl cn_426 fl_12_617) sf_6952 rfl rfl tI_12_6 rfl ?_
      refine im_pfI (q := 44) D426_41 (im_fl cn_426 fl_12_449) sf_6952 rfl rfl ti_12_7 hr10 ?_
      refine im_ld (q := 45) (i := 0) D426_44 rfl rfl rfl ?_
      refine im_callV (q := 48) (kd := 1) (y := 386) (n := 0) (ci := 12) (a := 6952) (vs := [.ref 6952]) (r := []) (L2 := [some (.ref 6952), none]) D426_45 (im_cal cn_426 cl_12_493) (Or.inl rfl) rfl sf_6952 rfl rfl rfl rfl hd ⟨rfl, trivial⟩ ?_
      refine hP.mono ?_
      rintro _ e13 M11 ⟨x12, rfl, rfl, hP⟩
      refine im_bkS ?_
      refine im_st1 (q := 50) (i := 4) (L' := [some (.ref 6952), some (vL p1), none, some (vI p3), some (vI x12), none, none]) D426_48 (Or.inr rfl) (Nat.le_of_ble_eq_true rfl) rfl ?_
      refine im_iconst (q := 51) D426_50 ?_
      refine im_st1 (q := 53) (i := 5) (L' := [some (.ref 6952), some (vL p1), none, some (vI p3), some (vI x12), some (vI 0), none]) D426_51 (Or.inr rfl) (Nat.le_of_ble_eq_true rfl) rfl ?_
      exact hP.wk ⟨rfl, rfl, rfl, rfl, rfl, trivial⟩
    · replace hP := hP.2 (Decidable.not_not.mp hc9)
      refine im_iconst (q := 35) D426_34 ?_
      exact im_iret (q := 36) D426_35 rfl hP
  · replace hP := hP.2 hc4
    refine im_ld (q := 10) (i := 3) D426_9 rfl rfl rfl ?_
    obtain ⟨hg5, hP⟩ := hP
    refine im_i2l (q := 11) D426_10 hg5 ?_
    refine im_lconst (q := 12) (z := 0) D426_11 rfl ?_
    refine im_ldc2 (q := 15) (n := 3) D426_12 rfl ?_
    refine im_callS (q := 18) (kd := 0) (y := 268) (n := 3) (z := 12) (vs := [vL p3, vL 0, vL 3]) (r := [vI 2, .ref 6952]) (L2 := [some (vL p3), none, some (vL 0), none, some (vL 3), none]) D426_15 rfl (im_cal cn_426 cl_12_428) (Or.inl rfl) rfl rfl rfl rfl rfl hd ⟨rfl, rfl, rfl, trivial⟩ ?_
    refine hP.mono ?_
    rintro _ e37 M15 ⟨x16, rfl, rfl, hP⟩
    refine im_bkS ?_
    obtain ⟨hg17, hP⟩ := hP
    refine im_ifc (q := 21) (t := 25) D426_18 rfl hg17 (fun hc18 => ?_) (fun hc18 => ?_)
    · replace hP := hP.1 hc18
      refine im_iconst (q := 26) D426_25 ?_
      refine im_iconst (q := 27) D426_26 ?_
      refine im_iconst (q := 28) D426_27 ?_
      refine im_callV (q := 31) (kd := 1) (y := 264) (n := 4) (ci := 12) (a := 6952) (vs := [.ref 6952, vI 2, vI 0, vI 1, vI 1]) (r := []) (L2 := [some (.ref 6952), some (vI 2), some (vI 0), some (vI 1), some (vI 1)]) D426_28 (im_cal cn_426 cl_12_419) (Or.inl rfl) rfl sf_6952 rfl rfl rfl rfl hd ⟨rfl, rfl, rfl, rfl, rfl, trivial⟩ ?_
      refine hP.mono ?_
      rintro _ e27 M19 ⟨x20, rfl, rfl, hP⟩
      refine im_bkS ?_
      obtain ⟨hg21, hP⟩ := hP
      refine im_ifc (q := 34) (t := 36) D426_31 rfl hg21 (fun hc22 => ?_) (fun hc22 => ?_)
      · replace hP := hP.1 hc22
        refine im_ld (q := 37) (i := 0) D426_36 rfl rfl rfl ?_
        refine im_ld (q := 38) (i := 0) D426_37 rfl rfl rfl ?_
        refine im_rng (j := 6) sf_6952 (by decide) (by decide) (fun hr23 => ?_)
        refine im_gfI (q := 41) D426_38 (im_fl cn_426 fl_12_617) sf_6952 rfl rfl tI_12_6 rfl ?_
        refine im_pfI (q := 44) D426_41 (im_fl cn_426 fl_12_449) sf_6952 rfl rfl ti_12_7 hr23 ?_
        refine im_ld (q := 45) (i := 0) D426_44 rfl rfl rfl ?_
        refine im_callV (q := 48) (kd := 1) (y := 386) (n := 0) (ci := 12) (a := 6952) (vs := [.ref 6952]) (r := []) (L2 := [some (.ref 6952), none]) D426_45 (im_cal cn_426 cl_12_493) (Or.inl rfl) rfl sf_6952 rfl rfl rfl rfl hd ⟨rfl, trivial⟩ ?_
        refine hP.mono ?_
        rintro _ e26 M24 ⟨x25, rfl, rfl, hP⟩
        refine im_bkS ?_
        refine im_st1 (q := 50) (i := 4) (L' := [some (.ref 6952), some (vL p1), none, some (vI p3), some (vI x25), none, none]) D426_48 (Or.inr rfl) (Nat.le_of_ble_eq_true rfl) rfl ?_
        refine im_iconst (q := 51) D426_50 ?_
        refine im_st1 (q := 53) (i := 5) (L' := [some (.ref 6952), some (vL p1), none, some (vI p3), some (vI x25), some (vI 0), none]) D426_51 (Or.inr rfl) (Nat.le_of_ble_eq_true rfl) rfl ?_
        exact hP.wk ⟨rfl, rfl, rfl, rfl, rfl, trivial⟩
      · replace hP := hP.2 (Decidable.not_not.mp hc22)
        refine im_iconst (q := 35) D426_34 ?_
        exact im_iret (q := 36) D426_35 rfl hP
    · replace hP := hP.2 hc18
      refine im_iconst (q := 22) D426_21 ?_
      refine im_goto (q := 25) (t := 26) D426_22 rfl ?_
      refine im_iconst (q := 27) D426_26 ?_
      refine im_iconst (q := 28) D426_27 ?_
      refine im_callV (q := 31) (kd := 1) (y := 264) (n := 4) (ci := 12) (a := 6952) (vs := [.ref 6952, vI 2, vI 1, vI 1, vI 1]) (r := []) (L2 := [some (.ref 6952), some (vI 2), some (vI 1), some (vI 1), some (vI 1)]) D426_28 (im_cal cn_426 cl_12_419) (Or.inl rfl) rfl sf_6952 rfl rfl rfl rfl hd ⟨rfl, rfl, rfl, rfl, rfl, trivial⟩ ?_
      refine hP.mono ?_
      rintro _ e36 M28 ⟨x29, rfl, rfl, hP⟩
      refine im_bkS ?_
      obtain ⟨hg30, hP⟩ := hP
      refine im_ifc (q := 34) (t := 36) D426_31 rfl hg30 (fun hc31 => ?_) (fun hc31 => ?_)
      · replace hP := hP.1 hc31
        refine im_ld (q := 37) (i := 0) D426_36 rfl rfl rfl ?_
        refine im_ld (q := 38) (i := 0) D426_37 rfl rfl rfl ?_
        refine im_rng (j := 6) sf_6952 (by decide) (by decide) (fun hr32 => ?_)
        refine im_gfI (q := 41) D426_38 (im_fl cn_426 fl_12_617) sf_6952 rfl rfl tI_12_6 rfl ?_
        refine im_pfI (q := 44) D426_41 (im_fl cn_426 fl_12_449) sf_6952 rfl rfl ti_12_7 hr32 ?_
        refine im_ld (q := 45) (i := 0) D426_44 rfl rfl rfl ?_
        refine im_callV (q := 48) (kd := 1) (y := 386) (n := 0) (ci := 12) (a := 6952) (vs := [.ref 6952]) (r := []) (L2 := [some (.ref 6952), none]) D426_45 (im_cal cn_426 cl_12_493) (Or.inl rfl) rfl sf_6952 rfl rfl rfl rfl hd ⟨rfl, trivial⟩ ?_
        refine hP.mono ?_
        rintro _ e35 M33 ⟨x34, rfl, rfl, hP⟩
        refine im_bkS ?_
        refine im_st1 (q := 50) (i := 4) (L' := [some (.ref 6952), some (vL p1), none, some (vI p3), some (vI x34), none, none]) D426_48 (Or.inr rfl) (Nat.le_of_ble_eq_true rfl) rfl ?_
        refine im_iconst (q := 51) D426_50 ?_
        refine im_st1 (q := 53) (i := 5) (L' := [some (.ref 6952), some (vL p1), none, some (vI p3), some (vI x34), some (vI 0), none]) D426_51 (Or.inr rfl) (Nat.le_of_ble_eq_true rfl) rfl ?_
        exact hP.wk ⟨rfl, rfl, rfl, rfl, rfl, trivial⟩
      · replace hP := hP.2 (Decidable.not_not.mp hc31)
        refine im_iconst (q := 35) D426_34 ?_
        exact im_iret (q := 36) D426_35 rfl hP
set_option maxRecDepth 20000 in
set_option maxHeartbeats 4000000 in
theorem b_total_53 {g : im_g} {d : Nat} {e : im_E} {M : im_M} {K : im_K} {p1 p3 p4 p5 : Int} (hd : 1 ≤ d) (hP : (im_i32 p5) ∧ ((((p5 < (M 6952 130) → (im_i32 p3) ∧ (im_i32 (p3.tmod 2)) ∧ (((p3.tmod 2) = 0 → (0 ≤ p5 ∧ p5 < 60) ∧ (im_i64 p1) ∧ ((¬ (M 7043 p5) = p1 → im_T g d 426 53 [some (.ref 6952), some (vL p1), none, some (vI p3), some (vI p4), some (vI (p5 + 1)), none] [] e M K) ∧ ((M 7043 p5) = p1 → im_T g (d - 1) 345 0 [some (.ref 6952), some (.ref 7044), some (vI p5), none, none, none] [] e M (im_ri (fun x15 e_ M14 => e = e_ ∧ im_T g (d - 1) 372 0 [some (.ref 6952), some (vI p4), some (vI x15), some (vI 1), none, none, none, none, none, none, none, none, none] [] e M14 (im_ri (fun x17 e_ M16 => e = e_ ∧ im_T g d 426 53 [some (.ref 6952), some (vL p1), none, some (vI p3), some (vI x17), some (vI (p5 + 1)), none] [] e M16 K))))))))))) ∧ (((((M 6952 130) ≤ p5)) ∨ ((p5 < (M 6952 130)) ∧ (¬ (p3.tmod 2) = 0))) → im_T g d 426 113 [some (.ref 6952), some (vL p1), none, some (vI p3), some (vI p4), some (vI 0), none] [] e M K))) : im_T g d 426 53 [some (.ref 6952), some (vL p1), none, some (vI p3), some (vI p4), some (vI p5), none] [] e M K := by
  refine im_ld (q := 55) (i := 5) D426_53 rfl rfl rfl ?_
  refine im_ld (q := 56) (i := 0) D426_55 rfl rfl rfl ?_
  refine im_rng (j := 130) sf_6952 (by decide) (by decide) (fun hr1 => ?_)
  refine im_gfI (q := 59) D426_56 (im_fl cn_426 fl_12_1032) sf_6952 rfl rfl tI_12_130 rfl ?_
  obtain ⟨hg2, hP⟩ := hP
  obtain ⟨hP, hJ11⟩ := hP
  have kJ12 : ((((M 6952 130) ≤ p5)) ∨ ((p5 < (M 6952 130)) ∧ (¬ (p3.tmod 2) = 0))) → im_T g d 426 110 [some (.ref 6952), some (vL p1), none, some (vI p3), some (vI p4), none, none] [] e M K := by
    intro  hx13
    have hP := hJ11  hx13
    refine im_iconst (q := 111) D426_110 ?_
    refine im_st1 (q := 113) (i := 5) (L' := [some (.ref 6952), some (vL p1), none, some (vI p3), some (vI p4), some (vI 0), none]) D426_111 (Or.inr rfl) (Nat.le_of_ble_eq_true rfl) rfl ?_
    exact hP.wk ⟨rfl, rfl, rfl, rfl, rfl, trivial⟩
  refine im_icmp (q := 62) (t := 110) D426_59 rfl hg2 hr1 (fun hc3 => ?_) (fun hc3 => ?_)
  · exact (kJ12  (Or.inl hc3)).wk ⟨rfl, rfl, rfl, rfl, trivial⟩
  · replace hP := hP (Int.not_le.mp hc3)
    refine im_ld (q := 63) (i := 3) D426_62 rfl rfl rfl ?_
    refine im_iconst (q := 64) D426_63 ?_
    obtain ⟨hg4, hP⟩ := hP
    refine im_irem (q := 65) D426_64 hg4 (by decide) (by decide) ?_
    obtain ⟨hg5, hP⟩ := hP
    refine im_ifc (q := 68) (t := 110) D426_65 rfl hg5 (fun hc6 => ?_) (fun hc6 => ?_)
    · exact (kJ12  (Or.inr ⟨(Int.not_le.mp hc3), hc6⟩)).wk ⟨rfl, rfl, rfl, rfl, trivial⟩
    · replace hP := hP (Decidable.not_not.mp hc6)
      refine im_ld (q := 69) (i := 0) D426_68 rfl rfl rfl ?_
      refine im_gfR (q := 72) (b := 7043) D426_69 (im_fl cn_426 fl_12_285) sf_6952 rfl rfl tR_12_132 rf_6952_132 ?_
      refine im_ld (q := 74) (i := 5) D426_72 rfl rfl rfl ?_
      obtain ⟨hg7, hP⟩ := hP
      refine im_rng (j := p5) sf_7043 hg7.1 hg7.2 (fun hr8 => ?_)
      refine im_lald (q := 75) D426_74 sf_7043 hg7.1 hg7.2 (by decide) rfl ?_
      refine im_ld (q := 76) (i := 1) D426_75 rfl rfl rfl ?_
      obtain ⟨hg9, hP⟩ := hP
      refine im_lif (q := 77) (q2 := 80) (t := 100) D426_76 D426_77 rfl hr8 hg9 (fun hc10 => ?_) (fun hc10 => ?_)
      · replace hP := hP.1 hc10
        refine im_ld (q := 102) (i := 4) D426_100 rfl rfl rfl ?_
        refine im_st1 (q := 104) (i := 4) (L' := [some (.ref 6952), some (vL p1), none, some (vI p3), some (vI p4), some (vI p5), none]) D426_102 (Or.inr rfl) (Nat.le_of_ble_eq_true rfl) rfl ?_
        refine im_iinc (q := 107) (i := 5) (L' := [some (.ref 6952), some (vL p1), none, some (vI p3), some (vI p4), some (vI (p5 + 1)), none]) D426_104 rfl (Nat.le_of_ble_eq_true rfl) rfl ?_
        refine im_goto (q := 110) (t := 53) D426_107 rfl ?_
        exact hP.wk ⟨rfl, rfl, rfl, rfl, rfl, trivial⟩
      · replace hP := hP.2 (Decidable.not_not.mp hc10)
        refine im_ld (q := 81) (i := 0) D426_80 rfl rfl rfl ?_
        refine im_ld (q := 83) (i := 4) D426_81 rfl rfl rfl ?_
        refine im_ld (q := 84) (i := 0) D426_83 rfl rfl rfl ?_
        refine im_ld (q := 85) (i := 0) D426_84 rfl rfl rfl ?_
        refine im_gfR (q := 88) (b := 7044) D426_85 (im_fl cn_426 fl_12_288) sf_6952 rfl rfl tR_12_133 rf_6952_133 ?_
        refine im_ld (q := 90) (i := 5) D426_88 rfl rfl rfl ?_
        refine im_callV (q := 93) (kd := 1) (y := 345) (n := 2) (ci := 12) (a := 6952) (vs := [.ref 6952, .ref 7044, vI p5]) (r := [vI p4, .ref 6952]) (L2 := [some (.ref 6952), some (.ref 7044), some (vI p5), none, none, none]) D426_90 (im_cal cn_426 cl_12_825) (Or.inl rfl) rfl sf_6952 rfl rfl rfl rfl hd ⟨rfl, rfl, rfl, trivial⟩ ?_
        refine hP.mono ?_
        rintro _ e19 M14 ⟨x15, rfl, rfl, hP⟩
        refine im_bkS ?_
        refine im_iconst (q := 94) D426_93 ?_
        refine im_callV (q := 97) (kd := 1) (y := 372) (n := 3) (ci := 12) (a := 6952) (vs := [.ref 6952, vI p4, vI x15, vI 1]) (r := []) (L2 := [some (.ref 6952), some (vI p4), some (vI x15), some (vI 1), none, none, none, none, none, none, none, none, none]) D426_94 (im_cal cn_426 cl_12_914) (Or.inl rfl) rfl sf_6952 rfl rfl rfl rfl hd ⟨rfl, rfl, rfl, rfl, trivial⟩ ?_
        refine hP.mono ?_
        rintro _ e18 M16 ⟨x17, rfl, rfl, hP⟩
        refine im_bkS ?_
        refine im_goto (q := 100) (t := 102) D426_97 rfl ?_
        refine im_st1 (q := 104) (i := 4) (L' := [some (.ref 6952), some (vL p1), none, some (vI p3), some (vI x17), some (vI p5), none]) D426_102 (Or.inr rfl) (Nat.le_of_ble_eq_true rfl) rfl ?_
        refine im_iinc (q := 107) (i := 5) (L' := [some (.ref 6952), some (vL p1), none, some (vI p3), some (vI x17), some (vI (p5 + 1)), none]) D426_104 rfl (Nat.le_of_ble_eq_true rfl) rfl ?_
        refine im_goto (q := 110) (t := 53) D426_107 rfl ?_
        exact hP.wk ⟨rfl, rfl, rfl, rfl, rfl, trivial⟩
set_option maxRecDepth 20000 in
set_option maxHeartbeats 4000000 in
theorem b_total_113 {g : im_g} {d : Nat} {e : im_E} {M : im_M} {K : im_K} {p1 p3 p4 p5 : Int} (hd : 1 ≤ d) (hP : (im_i32 p5) ∧ ((((p5 < 16 → (im_i32 p3)))) ∧ ((((p5 < 16) ∧ (p3 = 1)) ∨ ((p5 < 16) ∧ (¬ p3 = 1) ∧ (p3 = 2))) → im_T g d 426 137 [some (.ref 6952), some (vL p1), none, some (vI p3), some (vI p4), some (vI p5), some (vI (40 * p5))] [] e M K) ∧ ((((16 ≤ p5)) ∨ ((p5 < 16) ∧ (¬ p3 = 1) ∧ (¬ p3 = 2))) → (im_i32 p3) ∧ ((¬ p3 = 3 → im_T g (d - 1) 324 0 [some (.ref 6952), some (vI p4), none] [] e (im_u M 6952 4 0) (im_r0 (fun  e_ M14 => e = e_ ∧ K (.inl (some (vI (M14 6952 4)))) e M14))) ∧ (p3 = 3 → im_T g (d - 1) 423 0 [some (.ref 6952), some (vL p1), none, none] [] e M (im_ri (fun x18 e_ M17 => e = e_ ∧ (im_i32 x18) ∧ ((x18 = (-1) → im_T g (d - 1) 324 0 [some (.ref 6952), some (vI p4), none] [] e (im_u M17 6952 4 0) (im_r0 (fun  e_ M21 => e = e_ ∧ K (.inl (some (vI (M21 6952 4)))) e M21))) ∧ (¬ x18 = (-1) → im_T g (d - 1) 423 0 [some (.ref 6952), some (vL p1), none, none] [] e M17 (im_ri (fun x25 e_ M24 => e = e_ ∧ im_T g (d - 1) 345 0 [some (.ref 6952), some (.ref 7046), some (vI x25), none, none, none] [] e M24 (im_ri (fun x27 e_ M26 => e = e_ ∧ im_T g (d - 1) 324 0 [some (.ref 6952), some (vI x27), none] [] e (im_u M26 6952 4 0) (im_r0 (fun  e_ M28 => e = e_ ∧ K (.inl (some (vI (M28 6952 4)))) e M28))))))))))))))) : im_T g d 426 113 [some (.ref 6952), some (vL p1), none, some (vI p3), some (vI p4), some (vI p5), none] [] e M K := by
  refine im_ld (q := 115) (i := 5) D426_113 rfl rfl rfl ?_
  refine im_bipush (q := 117) D426_115 rfl ?_
  obtain ⟨hg1, hP⟩ := hP
  obtain ⟨hP, hJ6, hJ9⟩ := hP
  have kJ7 : (((p5 < 16) ∧ (p3 = 1)) ∨ ((p5 < 16) ∧ (¬ p3 = 1) ∧ (p3 = 2))) → im_T g d 426 130 [some (.ref 6952), some (vL p1), none, some (vI p3), some (vI p4), some (vI p5), none] [] e M K := by
    intro  hx8
    have hP := hJ6  hx8
    refine im_bipush (q := 132) D426_130 rfl ?_
    refine im_ld (q := 134) (i := 5) D426_132 rfl rfl rfl ?_
    refine im_imul (q := 135) D426_134 ?_
    refine im_st1 (q := 137) (i := 6) (L' := [some (.ref 6952), some (vL p1), none, some (vI p3), some (vI p4), some (vI p5), some (vI (40 * p5))]) D426_135 (Or.inr rfl) (Nat.le_of_ble_eq_true rfl) rfl ?_
    exact hP.wk ⟨rfl, rfl, rfl, rfl, rfl, rfl, trivial⟩
  have kJ10 : (((16 ≤ p5)) ∨ ((p5 < 16) ∧ (¬ p3 = 1) ∧ (¬ p3 = 2))) → im_T g d 426 213 [some (.ref 6952), some (vL p1), none, some (vI p3), some (vI p4), none, none] [] e M K := by
    intro  hx11
    have hP := hJ9  hx11
    refine im_ld (q := 214) (i := 3) D426_213 rfl rfl rfl ?_
    refine im_iconst (q := 215) D426_214 ?_
    obtain ⟨hg12, hP⟩ := hP
    refine im_icmp (q := 218) (t := 242) D426_215 rfl hg12 (by decide) (fun hc13 => ?_) (fun hc13 => ?_)
    · replace hP := hP.1 hc13
      refine im_ld (q := 243) (i := 0) D426_242 rfl rfl rfl ?_
      refine im_iconst (q := 244) D426_243 ?_
      refine im_pfI (q := 247) D426_244 (im_fl cn_426 fl_12_423) sf_6952 rfl rfl ti_12_4 (by decide) ?_
      refine im_ld (q := 248) (i := 0) D426_247 rfl rfl rfl ?_
      refine im_ld (q := 250) (i := 4) D426_248 rfl rfl rfl ?_
      refine im_callV (q := 253) (kd := 1) (y := 324) (n := 1) (ci := 12) (a := 6952) (vs := [.ref 6952, vI p4]) (r := []) (L2 := [some (.ref 6952), some (vI p4), none]) D426_250 (im_cal cn_426 cl_12_756) (Or.inl rfl) rfl sf_6952 rfl rfl rfl rfl hd ⟨rfl, rfl, trivial⟩ ?_
      refine hP.mono ?_
      rintro _ e16 M14 ⟨rfl, rfl, hP⟩
      refine im_bkN ?_
      refine im_ld (q := 254) (i := 0) D426_253 rfl rfl rfl ?_
      refine im_rng (j := 4) sf_6952 (by decide) (by decide) (fun hr15 => ?_)
      refine im_gfI (q := 257) D426_254 (im_fl cn_426 fl_12_423) sf_6952 rfl rfl tI_12_4 rfl ?_
      exact im_iret (q := 258) D426_257 rfl hP
    · replace hP := hP.2 (Decidable.not_not.mp hc13)
      refine im_ld (q := 219) (i := 0) D426_218 rfl rfl rfl ?_
      refine im_ld (q := 220) (i := 1) D426_219 rfl rfl rfl ?_
      refine im_callV (q := 223) (kd := 1) (y := 423) (n := 1) (ci := 12) (a := 6952) (vs := [.ref 6952, vL p1]) (r := []) (L2 := [some (.ref 6952), some (vL p1), none, none]) D426_220 (im_cal cn_426 cl_12_1074) (Or.inl rfl) rfl sf_6952 rfl rfl rfl rfl hd ⟨rfl, rfl, trivial⟩ ?_
      refine hP.mono ?_
      rintro _ e33 M17 ⟨x18, rfl, rfl, hP⟩
      refine im_bkS ?_
      refine im_iconst (q := 224) D426_223 ?_
      obtain ⟨hg19, hP⟩ := hP
      refine im_icmp (q := 227) (t := 242) D426_224 rfl hg19 (by decide) (fun hc20 => ?_) (fun hc20 => ?_)
      · replace hP := hP.1 hc20
        refine im_ld (q := 243) (i := 0) D426_242 rfl rfl rfl ?_
        refine im_iconst (q := 244) D426_243 ?_
        refine im_pfI (q := 247) D426_244 (im_fl cn_426 fl_12_423) sf_6952 rfl rfl ti_12_4 (by decide) ?_
        refine im_ld (q := 248) (i := 0) D426_247 rfl rfl rfl ?_
        refine im_ld (q := 250) (i := 4) D426_248 rfl rfl rfl ?_
        refine im_callV (q := 253) (kd := 1) (y := 324) (n := 1) (ci := 12) (a := 6952) (vs := [.ref 6952, vI p4]) (r := []) (L2 := [some (.ref 6952), some (vI p4), none]) D426_250 (im_cal cn_426 cl_12_756) (Or.inl rfl) rfl sf_6952 rfl rfl rfl rfl hd ⟨rfl, rfl, trivial⟩ ?_
        refine hP.mono ?_
        rintro _ e23 M21 ⟨rfl, rfl, hP⟩
        refine im_bkN ?_
        refine im_ld (q := 254) (i := 0) D426_253 rfl rfl rfl ?_
        refine im_rng (j := 4) sf_6952 (by decide) (by decide) (fun hr22 => ?_)
        refine im_gfI (q := 257) D426_254 (im_fl cn_426 fl_12_423) sf_6952 rfl rfl tI_12_4 rfl ?_
        exact im_iret (q := 258) D426_257 rfl hP
      · replace hP := hP.2 hc20
        refine im_ld (q := 228) (i := 0) D426_227 rfl rfl rfl ?_
        refine im_ld (q := 229) (i := 0) D426_228 rfl rfl rfl ?_
        refine im_gfR (q := 232) (b := 7046) D426_229 (im_fl cn_426 fl_12_294) sf_6952 rfl rfl tR_12_136 rf_6952_136 ?_
        refine im_ld (q := 233) (i := 0) D426_232 rfl rfl rfl ?_
        refine im_ld (q := 234) (i := 1) D426_233 rfl rfl rfl ?_
        refine im_callV (q := 237) (kd := 1) (y := 423) (n := 1) (ci := 12) (a := 6952) (vs := [.ref 6952, vL p1]) (r := [.ref 7046, .ref 6952]) (L2 := [some (.ref 6952), some (vL p1), none, none]) D426_234 (im_cal cn_426 cl_12_1074) (Or.inl rfl) rfl sf_6952 rfl rfl rfl rfl hd ⟨rfl, rfl, trivial⟩ ?_
        refine hP.mono ?_
        rintro _ e32 M24 ⟨x25, rfl, rfl, hP⟩
        refine im_bkS ?_
        refine im_callV (q := 240) (kd := 1) (y := 345) (n := 2) (ci := 12) (a := 6952) (vs := [.ref 6952, .ref 7046, vI x25]) (r := []) (L2 := [some (.ref 6952), some (.ref 7046), some (vI x25), none, none, none]) D426_237 (im_cal cn_426 cl_12_825) (Or.inl rfl) rfl sf_6952 rfl rfl rfl rfl hd ⟨rfl, rfl, rfl, trivial⟩ ?_
        refine hP.mono ?_
        rintro _ e31 M26 ⟨x27, rfl, rfl, hP⟩
        refine im_bkS ?_
        refine im_st1 (q := 242) (i := 4) (L' := [some (.ref 6952), some (vL p1), none, some (vI p3), some (vI x27), none, none]) D426_240 (Or.inr rfl) (Nat.le_of_ble_eq_true rfl) rfl ?_
        refine im_ld (q := 243) (i := 0) D426_242 rfl rfl rfl ?_
        refine im_iconst (q := 244) D426_243 ?_
        refine im_pfI (q := 247) D426_244 (im_fl cn_426 fl_12_423) sf_6952 rfl rfl ti_12_4 (by decide) ?_
        refine im_ld (q := 248) (i := 0) D426_247 rfl rfl rfl ?_
        refine im_ld (q := 250) (i := 4) D426_248 rfl rfl rfl ?_
        refine im_callV (q := 253) (kd := 1) (y := 324) (n := 1) (ci := 12) (a := 6952) (vs := [.ref 6952, vI x27]) (r := []) (L2 := [some (.ref 6952), some (vI x27), none]) D426_250 (im_cal cn_426 cl_12_756) (Or.inl rfl) rfl sf_6952 rfl rfl rfl rfl hd ⟨rfl, rfl, trivial⟩ ?_
        refine hP.mono ?_
        rintro _ e30 M28 ⟨rfl, rfl, hP⟩
        refine im_bkN ?_
        refine im_ld (q := 254) (i := 0) D426_253 rfl rfl rfl ?_
        refine im_rng (j := 4) sf_6952 (by decide) (by decide) (fun hr29 => ?_)
        refine im_gfI (q := 257) D426_254 (im_fl cn_426 fl_12_423) sf_6952 rfl rfl tI_12_4 rfl ?_
        exact im_iret (q := 258) D426_257 rfl hP
  refine im_icmp (q := 120) (t := 213) D426_117 rfl hg1 (by decide) (fun hc2 => ?_) (fun hc2 => ?_)
  · exact (kJ10  (Or.inl hc2)).wk ⟨rfl, rfl, rfl, rfl, trivial⟩
  · replace hP := hP (Int.not_le.mp hc2)
    refine im_ld (q := 121) (i := 3) D426_120 rfl rfl rfl ?_
    refine im_iconst (q := 122) D426_121 ?_
    have hg3 := hP
    refine im_icmp (q := 125) (t := 130) D426_122 rfl hg3 (by decide) (fun hc4 => ?_) (fun hc4 => ?_)
    · exact (kJ7  (Or.inl ⟨(Int.not_le.mp hc2), hc4⟩)).wk ⟨rfl, rfl, rfl, rfl, rfl, trivial⟩
    · refine im_ld (q := 126) (i := 3) D426_125 rfl rfl rfl ?_
      refine im_iconst (q := 127) D426_126 ?_
      refine im_icmp (q := 130) (t := 213) D426_127 rfl hg3 (by decide) (fun hc5 => ?_) (fun hc5 => ?_)
      · exact (kJ10  (Or.inr ⟨(Int.not_le.mp hc2), hc4, hc5⟩)).wk ⟨rfl, rfl, rfl, rfl, trivial⟩
      · exact (kJ7  (Or.inr ⟨(Int.not_le.mp hc2), hc4, (Decidable.not_not.mp hc5)⟩)).wk ⟨rfl, rfl, rfl, rfl, rfl, trivial⟩
set_option maxRecDepth 20000 in
set_option maxHeartbeats 4000000 in
theorem b_total_137 {g : im_g} {d : Nat} {e : im_E} {M : im_M} {K : im_K} {p1 p3 p4 p5 p6 : Int} (hd : 1 ≤ d) (hP : (0 ≤ p5 ∧ p5 < 16) ∧ ((((¬ (M 6994 p5) = 0 → (im_i32 p6) ∧ (im_i32 ((40 * p5) + (M 6997 p5))) ∧ ((p6 < ((40 * p5) + (M 6997 p5)) → (0 ≤ p6 ∧ p6 < 640) ∧ (im_i64 p1) ∧ ((¬ (M 6999 p6) = p1 → im_T g d 426 137 [some (.ref 6952), some (vL p1), none, some (vI p3), some (vI p4), some (vI p5), some (vI (p6 + 1))] [] e M K) ∧ ((M 6999 p6) = p1 → im_T g (d - 1) 345 0 [some (.ref 6952), some (.ref 7000), some (vI p6), none, none, none] [] e M (im_ri (fun x16 e_ M15 => e = e_ ∧ im_T g (d - 1) 372 0 [some (.ref 6952), some (vI p4), some (vI x16), some (vI 1), none, none, none, none, none, none, none, none, none] [] e M15 (im_ri (fun x18 e_ M17 => e = e_ ∧ im_T g d 426 137 [some (.ref 6952), some (vL p1), none, some (vI p3), some (vI x18), some (vI p5), some (vI (p6 + 1))] [] e M17 K))))))))))) ∧ (((((M 6994 p5) = 0)) ∨ ((¬ (M 6994 p5) = 0) ∧ (((40 * p5) + (M 6997 p5)) ≤ p6))) → im_T g d 426 113 [some (.ref 6952), some (vL p1), none, some (vI p3), some (vI p4), some (vI (p5 + 1)), none] [] e M K))) : im_T g d 426 137 [some (.ref 6952), some (vL p1), none, some (vI p3), some (vI p4), some (vI p5), some (vI p6)] [] e M K := by
  refine im_ld (q := 138) (i := 0) D426_137 rfl rfl rfl ?_
  refine im_gfR (q := 141) (b := 6994) D426_138 (im_fl cn_426 fl_12_136) sf_6952 rfl rfl tR_12_66 rf_6952_66 ?_
  refine im_ld (q := 143) (i := 5) D426_141 rfl rfl rfl ?_
  obtain ⟨hg1, hP⟩ := hP
  refine im_rng (j := p5) sf_6994 hg1.1 hg1.2 (fun hr2 => ?_)
  refine im_bald (q := 144) D426_143 sf_6994 (Or.inr rfl) hg1.1 hg1.2 (by decide) rfl ?_
  obtain ⟨hP, hJ12⟩ := hP
  have kJ13 : ((((M 6994 p5) = 0)) ∨ ((¬ (M 6994 p5) = 0) ∧ (((40 * p5) + (M 6997 p5)) ≤ p6))) → im_T g d 426 207 [some (.ref 6952), some (vL p1), none, some (vI p3), some (vI p4), some (vI p5), none] [] e M K := by
    intro  hx14
    have hP := hJ12  hx14
    refine im_iinc (q := 210) (i := 5) (L' := [some (.ref 6952), some (vL p1), none, some (vI p3), some (vI p4), some (vI (p5 + 1)), none]) D426_207 rfl (Nat.le_of_ble_eq_true rfl) rfl ?_
    refine im_goto (q := 213) (t := 113) D426_210 rfl ?_
    exact hP.wk ⟨rfl, rfl, rfl, rfl, rfl, trivial⟩
  refine im_ifc (q := 147) (t := 207) D426_144 rfl (im_z32 hr2) (fun hc3 => ?_) (fun hc3 => ?_)
  · exact (kJ13  (Or.inl hc3)).wk ⟨rfl, rfl, rfl, rfl, rfl, trivial⟩
  · replace hP := hP hc3
    refine im_ld (q := 149) (i := 6) D426_147 rfl rfl rfl ?_
    refine im_bipush (q := 151) D426_149 rfl ?_
    refine im_ld (q := 153) (i := 5) D426_151 rfl rfl rfl ?_
    refine im_imul (q := 154) D426_153 ?_
    refine im_ld (q := 155) (i := 0) D426_154 rfl rfl rfl ?_
    refine im_gfR (q := 158) (b := 6997) D426_155 (im_fl cn_426 fl_12_145) sf_6952 rfl rfl tR_12_69 rf_6952_69 ?_
    refine im_ld (q := 160) (i := 5) D426_158 rfl rfl rfl ?_
    refine im_rng (j := p5) sf_6997 hg1.1 hg1.2 (fun hr4 => ?_)
    refine im_iald (q := 161) D426_160 sf_6997 hg1.1 hg1.2 (by decide) rfl ?_
    refine im_iadd (q := 162) D426_161 ?_
    obtain ⟨hg5, hP⟩ := hP
    obtain ⟨hg6, hP⟩ := hP
    refine im_icmp (q := 165) (t := 207) D426_162 rfl hg5 hg6 (fun hc7 => ?_) (fun hc7 => ?_)
    · exact (kJ13  (Or.inr ⟨hc3, hc7⟩)).wk ⟨rfl, rfl, rfl, rfl, rfl, trivial⟩
    · replace hP := hP (Int.not_le.mp hc7)
      refine im_ld (q := 166) (i := 0) D426_165 rfl rfl rfl ?_
      refine im_gfR (q := 169) (b := 6999) D426_166 (im_fl cn_426 fl_12_151) sf_6952 rfl rfl tR_12_71 rf_6952_71 ?_
      refine im_ld (q := 171) (i := 6) D426_169 rfl rfl rfl ?_
      obtain ⟨hg8, hP⟩ := hP
      refine im_rng (j := p6) sf_6999 hg8.1 hg8.2 (fun hr9 => ?_)
      refine im_lald (q := 172) D426_171 sf_6999 hg8.1 hg8.2 (by decide) rfl ?_
      refine im_ld (q := 173) (i := 1) D426_172 rfl rfl rfl ?_
      obtain ⟨hg10, hP⟩ := hP
      refine im_lif (q := 174) (q2 := 177) (t := 197) D426_173 D426_174 rfl hr9 hg10 (fun hc11 => ?_) (fun hc11 => ?_)
      · replace hP := hP.1 hc11
        refine im_ld (q := 199) (i := 4) D426_197 rfl rfl rfl ?_
        refine im_st1 (q := 201) (i := 4) (L' := [some (.ref 6952), some (vL p1), none, some (vI p3), some (vI p4), some (vI p5), some (vI p6)]) D426_199 (Or.inr rfl) (Nat.le_of_ble_eq_true rfl) rfl ?_
        refine im_iinc (q := 204) (i := 6) (L' := [some (.ref 6952), some (vL p1), none, some (vI p3), some (vI p4), some (vI p5), some (vI (p6 + 1))]) D426_201 rfl (Nat.le_of_ble_eq_true rfl) rfl ?_
        refine im_goto (q := 207) (t := 137) D426_204 rfl ?_
        exact hP.wk ⟨rfl, rfl, rfl, rfl, rfl, rfl, trivial⟩
      · replace hP := hP.2 (Decidable.not_not.mp hc11)
        refine im_ld (q := 178) (i := 0) D426_177 rfl rfl rfl ?_
        refine im_ld (q := 180) (i := 4) D426_178 rfl rfl rfl ?_
        refine im_ld (q := 181) (i := 0) D426_180 rfl rfl rfl ?_
        refine im_ld (q := 182) (i := 0) D426_181 rfl rfl rfl ?_
        refine im_gfR (q := 185) (b := 7000) D426_182 (im_fl cn_426 fl_12_155) sf_6952 rfl rfl tR_12_72 rf_6952_72 ?_
        refine im_ld (q := 187) (i := 6) D426_185 rfl rfl rfl ?_
        refine im_callV (q := 190) (kd := 1) (y := 345) (n := 2) (ci := 12) (a := 6952) (vs := [.ref 6952, .ref 7000, vI p6]) (r := [vI p4, .ref 6952]) (L2 := [some (.ref 6952), some (.ref 7000), some (vI p6), none, none, none]) D426_187 (im_cal cn_426 cl_12_825) (Or.inl rfl) rfl sf_6952 rfl rfl rfl rfl hd ⟨rfl, rfl, rfl, trivial⟩ ?_
        refine hP.mono ?_
        rintro _ e20 M15 ⟨x16, rfl, rfl, hP⟩
        refine im_bkS ?_
        refine im_iconst (q := 191) D426_190 ?_
        refine im_callV (q := 194) (kd := 1) (y := 372) (n := 3) (ci := 12) (a := 6952) (vs := [.ref 6952, vI p4, vI x16, vI 1]) (r := []) (L2 := [some (.ref 6952), some (vI p4), some (vI x16), some (vI 1), none, none, none, none, none, none, none, none, none]) D426_191 (im_cal cn_426 cl_12_914) (Or.inl rfl) rfl sf_6952 rfl rfl rfl rfl hd ⟨rfl, rfl, rfl, rfl, trivial⟩ ?_
        refine hP.mono ?_
        rintro _ e19 M17 ⟨x18, rfl, rfl, hP⟩
        refine im_bkS ?_
        refine im_goto (q := 197) (t := 199) D426_194 rfl ?_
        refine im_st1 (q := 201) (i := 4) (L' := [some (.ref 6952), some (vL p1), none, some (vI p3), some (vI x18), some (vI p5), some (vI p6)]) D426_199 (Or.inr rfl) (Nat.le_of_ble_eq_true rfl) rfl ?_
        refine im_iinc (q := 204) (i := 6) (L' := [some (.ref 6952), some (vL p1), none, some (vI p3), some (vI x18), some (vI p5), some (vI (p6 + 1))]) D426_201 rfl (Nat.le_of_ble_eq_true rfl) rfl ?_
        refine im_goto (q := 207) (t := 137) D426_204 rfl ?_
        exact hP.wk ⟨rfl, rfl, rfl, rfl, rfl, rfl, trivial⟩
set_option maxRecDepth 20000 in
set_option maxHeartbeats 4000000 in
theorem b_wallets_0 {g : im_g} {d : Nat} {e : im_E} {M : im_M} {K : im_K} (hd : 1 ≤ d) (hP : im_T g (d - 1) 264 0 [some (.ref 6952), some (vI 1), some (vI 1), some (vI 1), some (vI 1)] [] e M (im_ri (fun x2 e_ M1 => e = e_ ∧ (im_i32 x2) ∧ ((∀ x6 : Int, (((x2 = 0) ∧ x6 = 0) ∨ ((¬ x2 = 0) ∧ x6 = (M1 6952 130))) → K (.inl (some (vI x6))) e M1))))) : im_T g d 427 0 [some (.ref 6952)] [] e M K := by
  refine im_ld (q := 1) (i := 0) D427_0 rfl rfl rfl ?_
  refine im_iconst (q := 2) D427_1 ?_
  refine im_iconst (q := 3) D427_2 ?_
  refine im_iconst (q := 4) D427_3 ?_
  refine im_iconst (q := 5) D427_4 ?_
  refine im_callV (q := 8) (kd := 1) (y := 264) (n := 4) (ci := 12) (a := 6952) (vs := [.ref 6952, vI 1, vI 1, vI 1, vI 1]) (r := []) (L2 := [some (.ref 6952), some (vI 1), some (vI 1), some (vI 1), some (vI 1)]) D427_5 (im_cal cn_427 cl_12_419) (Or.inl rfl) rfl sf_6952 rfl rfl rfl rfl hd ⟨rfl, rfl, rfl, rfl, rfl, trivial⟩ ?_
  refine hP.mono ?_
  rintro _ e10 M1 ⟨x2, rfl, rfl, hP⟩
  refine im_bkS ?_
  obtain ⟨hg3, hP⟩ := hP
  have hJ7 := hP
  have kJ8 : ∀ x6 : Int, (((x2 = 0) ∧ x6 = 0) ∨ ((¬ x2 = 0) ∧ x6 = (M1 6952 130))) → im_T g d 427 19 [none] [vI x6] e M1 K := by
    intro x6 hx9
    have hP := hJ7 x6 hx9
    exact im_iret (q := 20) D427_19 rfl hP
  refine im_ifc (q := 11) (t := 18) D427_8 rfl hg3 (fun hc4 => ?_) (fun hc4 => ?_)
  · refine im_iconst (q := 19) D427_18 ?_
    exact (kJ8 (0) (Or.inl ⟨hc4, rfl⟩)).wk trivial
  · refine im_ld (q := 12) (i := 0) D427_11 rfl rfl rfl ?_
    refine im_rng (j := 130) sf_6952 (by decide) (by decide) (fun hr5 => ?_)
    refine im_gfI (q := 15) D427_12 (im_fl cn_427 fl_12_1032) sf_6952 rfl rfl tI_12_130 rfl ?_
    refine im_goto (q := 18) (t := 19) D427_15 rfl ?_
    exact (kJ8 ((M1 6952 130)) (Or.inr ⟨hc4, rfl⟩)).wk trivial

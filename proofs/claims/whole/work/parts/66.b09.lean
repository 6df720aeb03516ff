/-! blocks of the reference -/
theorem D333_0 {g : im_g} : im_D g 333 0 (.lload_n 0) 1 := im_D.of (by decide +kernel)
theorem D333_1 {g : im_g} : im_D g 333 1 (.lconst 0) 2 := im_D.of (by decide +kernel)
theorem D333_2 {g : im_g} : im_D g 333 2 (.lcmp) 3 := im_D.of (by decide +kernel)
theorem D333_3 {g : im_g} : im_D g 333 3 (.ifCond .le 10) 6 := im_D.of (by decide +kernel)
theorem D333_6 {g : im_g} : im_D g 333 6 (.lload_n 0) 7 := im_D.of (by decide +kernel)
theorem D333_7 {g : im_g} : im_D g 333 7 (.invokestatic 573) 10 := im_D.of (by decide +kernel)
theorem D333_10 {g : im_g} : im_D g 333 10 (.ifCond .eq 5) 13 := im_D.of (by decide +kernel)
theorem D333_13 {g : im_g} : im_D g 333 13 (.iconst 0) 14 := im_D.of (by decide +kernel)
theorem D333_14 {g : im_g} : im_D g 333 14 (.ireturn) 15 := im_D.of (by decide +kernel)
theorem D333_15 {g : im_g} : im_D g 333 15 (.bipush 8) 17 := im_D.of (by decide +kernel)
theorem D333_17 {g : im_g} : im_D g 333 17 (.istore_n 2) 18 := im_D.of (by decide +kernel)
theorem D333_18 {g : im_g} : im_D g 333 18 (.lload_n 0) 19 := im_D.of (by decide +kernel)
theorem D333_19 {g : im_g} : im_D g 333 19 (.bipush 8) 21 := im_D.of (by decide +kernel)
theorem D333_21 {g : im_g} : im_D g 333 21 (.iload_n 2) 22 := im_D.of (by decide +kernel)
theorem D333_22 {g : im_g} : im_D g 333 22 (.iconst 1) 23 := im_D.of (by decide +kernel)
theorem D333_23 {g : im_g} : im_D g 333 23 (.isub) 24 := im_D.of (by decide +kernel)
theorem D333_24 {g : im_g} : im_D g 333 24 (.imul) 25 := im_D.of (by decide +kernel)
theorem D333_25 {g : im_g} : im_D g 333 25 (.lshr) 26 := im_D.of (by decide +kernel)
theorem D333_26 {g : im_g} : im_D g 333 26 (.ldc2_w 436) 29 := im_D.of (by decide +kernel)
theorem D333_29 {g : im_g} : im_D g 333 29 (.land) 30 := im_D.of (by decide +kernel)
theorem D333_30 {g : im_g} : im_D g 333 30 (.lconst 0) 31 := im_D.of (by decide +kernel)
theorem D333_31 {g : im_g} : im_D g 333 31 (.lcmp) 32 := im_D.of (by decide +kernel)
theorem D333_32 {g : im_g} : im_D g 333 32 (.ifCond .ne 9) 35 := im_D.of (by decide +kernel)
theorem D333_35 {g : im_g} : im_D g 333 35 (.iinc 2 (-1)) 38 := im_D.of (by decide +kernel)
theorem D333_38 {g : im_g} : im_D g 333 38 (.goto (-20)) 41 := im_D.of (by decide +kernel)
theorem D333_41 {g : im_g} : im_D g 333 41 (.lload_n 0) 42 := im_D.of (by decide +kernel)
theorem D333_42 {g : im_g} : im_D g 333 42 (.bipush 8) 44 := im_D.of (by decide +kernel)
theorem D333_44 {g : im_g} : im_D g 333 44 (.iload_n 2) 45 := im_D.of (by decide +kernel)
theorem D333_45 {g : im_g} : im_D g 333 45 (.iconst 1) 46 := im_D.of (by decide +kernel)
theorem D333_46 {g : im_g} : im_D g 333 46 (.isub) 47 := im_D.of (by decide +kernel)
theorem D333_47 {g : im_g} : im_D g 333 47 (.imul) 48 := im_D.of (by decide +kernel)
theorem D333_48 {g : im_g} : im_D g 333 48 (.lshr) 49 := im_D.of (by decide +kernel)
theorem D333_49 {g : im_g} : im_D g 333 49 (.ldc2_w 436) 52 := im_D.of (by decide +kernel)
theorem D333_52 {g : im_g} : im_D g 333 52 (.land) 53 := im_D.of (by decide +kernel)
theorem D333_53 {g : im_g} : im_D g 333 53 (.ldc2_w 577) 56 := im_D.of (by decide +kernel)
theorem D333_56 {g : im_g} : im_D g 333 56 (.ldc2_w 579) 59 := im_D.of (by decide +kernel)
theorem D333_59 {g : im_g} : im_D g 333 59 (.invokestatic 428) 62 := im_D.of (by decide +kernel)
theorem D333_62 {g : im_g} : im_D g 333 62 (.istore_n 3) 63 := im_D.of (by decide +kernel)
theorem D333_63 {g : im_g} : im_D g 333 63 (.iconst 0) 64 := im_D.of (by decide +kernel)
theorem D333_64 {g : im_g} : im_D g 333 64 (.istore 4) 66 := im_D.of (by decide +kernel)
theorem D333_66 {g : im_g} : im_D g 333 66 (.iload 4) 68 := im_D.of (by decide +kernel)
theorem D333_68 {g : im_g} : im_D g 333 68 (.iload_n 2) 69 := im_D.of (by decide +kernel)
theorem D333_69 {g : im_g} : im_D g 333 69 (.if_icmp .ge 60) 72 := im_D.of (by decide +kernel)
theorem D333_72 {g : im_g} : im_D g 333 72 (.lload_n 0) 73 := im_D.of (by decide +kernel)
theorem D333_73 {g : im_g} : im_D g 333 73 (.bipush 8) 75 := im_D.of (by decide +kernel)
theorem D333_75 {g : im_g} : im_D g 333 75 (.iload 4) 77 := im_D.of (by decide +kernel)
theorem D333_77 {g : im_g} : im_D g 333 77 (.imul) 78 := im_D.of (by decide +kernel)
theorem D333_78 {g : im_g} : im_D g 333 78 (.lshr) 79 := im_D.of (by decide +kernel)
theorem D333_79 {g : im_g} : im_D g 333 79 (.ldc2_w 436) 82 := im_D.of (by decide +kernel)
theorem D333_82 {g : im_g} : im_D g 333 82 (.land) 83 := im_D.of (by decide +kernel)
theorem D333_83 {g : im_g} : im_D g 333 83 (.lstore 5) 85 := im_D.of (by decide +kernel)
theorem D333_85 {g : im_g} : im_D g 333 85 (.iload_n 3) 86 := im_D.of (by decide +kernel)
theorem D333_86 {g : im_g} : im_D g 333 86 (.ifCond .eq 35) 89 := im_D.of (by decide +kernel)
theorem D333_89 {g : im_g} : im_D g 333 89 (.lload 5) 91 := im_D.of (by decide +kernel)
theorem D333_91 {g : im_g} : im_D g 333 91 (.ldc2_w 577) 94 := im_D.of (by decide +kernel)
theorem D333_94 {g : im_g} : im_D g 333 94 (.ldc2_w 579) 97 := im_D.of (by decide +kernel)
theorem D333_97 {g : im_g} : im_D g 333 97 (.invokestatic 428) 100 := im_D.of (by decide +kernel)
theorem D333_100 {g : im_g} : im_D g 333 100 (.ifCond .ne 17) 103 := im_D.of (by decide +kernel)
theorem D333_103 {g : im_g} : im_D g 333 103 (.lload 5) 105 := im_D.of (by decide +kernel)
theorem D333_105 {g : im_g} : im_D g 333 105 (.ldc2_w 581) 108 := im_D.of (by decide +kernel)
theorem D333_108 {g : im_g} : im_D g 333 108 (.ldc2_w 583) 111 := im_D.of (by decide +kernel)
theorem D333_111 {g : im_g} : im_D g 333 111 (.invokestatic 428) 114 := im_D.of (by decide +kernel)
theorem D333_114 {g : im_g} : im_D g 333 114 (.ifCond .eq 7) 117 := im_D.of (by decide +kernel)
theorem D333_117 {g : im_g} : im_D g 333 117 (.iconst 1) 118 := im_D.of (by decide +kernel)
theorem D333_118 {g : im_g} : im_D g 333 118 (.goto 4) 121 := im_D.of (by decide +kernel)
theorem D333_121 {g : im_g} : im_D g 333 121 (.iconst 0) 122 := im_D.of (by decide +kernel)
theorem D333_122 {g : im_g} : im_D g 333 122 (.istore_n 3) 123 := im_D.of (by decide +kernel)
theorem D333_123 {g : im_g} : im_D g 333 123 (.iinc 4 1) 126 := im_D.of (by decide +kernel)
theorem D333_126 {g : im_g} : im_D g 333 126 (.goto (-60)) 129 := im_D.of (by decide +kernel)
theorem D333_129 {g : im_g} : im_D g 333 129 (.iload_n 3) 130 := im_D.of (by decide +kernel)
theorem D333_130 {g : im_g} : im_D g 333 130 (.ireturn) 131 := im_D.of (by decide +kernel)
theorem D334_0 {g : im_g} : im_D g 334 0 (.lload_n 1) 1 := im_D.of (by decide +kernel)
theorem D334_1 {g : im_g} : im_D g 334 1 (.invokestatic 800) 4 := im_D.of (by decide +kernel)
theorem D334_4 {g : im_g} : im_D g 334 4 (.ifCond .ne 6) 7 := im_D.of (by decide +kernel)
theorem D334_7 {g : im_g} : im_D g 334 7 (.bipush (-101)) 9 := im_D.of (by decide +kernel)
theorem D334_9 {g : im_g} : im_D g 334 9 (.ireturn) 10 := im_D.of (by decide +kernel)
theorem D334_10 {g : im_g} : im_D g 334 10 (.aload_n 0) 11 := im_D.of (by decide +kernel)
theorem D334_11 {g : im_g} : im_D g 334 11 (.aload_n 0) 12 := im_D.of (by decide +kernel)
theorem D334_12 {g : im_g} : im_D g 334 12 (.invokevirtual 803) 15 := im_D.of (by decide +kernel)
theorem D334_15 {g : im_g} : im_D g 334 15 (.putfield 806) 18 := im_D.of (by decide +kernel)
theorem D334_18 {g : im_g} : im_D g 334 18 (.aload_n 0) 19 := im_D.of (by decide +kernel)
theorem D334_19 {g : im_g} : im_D g 334 19 (.getfield 403) 22 := im_D.of (by decide +kernel)
theorem D334_22 {g : im_g} : im_D g 334 22 (.ifCond .le 7) 25 := im_D.of (by decide +kernel)
theorem D334_25 {g : im_g} : im_D g 334 25 (.iconst (-1)) 26 := im_D.of (by decide +kernel)
theorem D334_26 {g : im_g} : im_D g 334 26 (.goto 26) 29 := im_D.of (by decide +kernel)
theorem D334_29 {g : im_g} : im_D g 334 29 (.aload_n 0) 30 := im_D.of (by decide +kernel)
theorem D334_30 {g : im_g} : im_D g 334 30 (.lload_n 1) 31 := im_D.of (by decide +kernel)
theorem D334_31 {g : im_g} : im_D g 334 31 (.invokevirtual 809) 34 := im_D.of (by decide +kernel)
theorem D334_34 {g : im_g} : im_D g 334 34 (.ifCond .ne 17) 37 := im_D.of (by decide +kernel)
theorem D334_37 {g : im_g} : im_D g 334 37 (.aload_n 0) 38 := im_D.of (by decide +kernel)
theorem D334_38 {g : im_g} : im_D g 334 38 (.getfield 794) 41 := im_D.of (by decide +kernel)
theorem D334_41 {g : im_g} : im_D g 334 41 (.bipush 20) 43 := im_D.of (by decide +kernel)
theorem D334_43 {g : im_g} : im_D g 334 43 (.if_icmp .ne 8) 46 := im_D.of (by decide +kernel)
theorem D334_46 {g : im_g} : im_D g 334 46 (.bipush (-9)) 48 := im_D.of (by decide +kernel)
theorem D334_48 {g : im_g} : im_D g 334 48 (.goto 4) 51 := im_D.of (by decide +kernel)
theorem D334_51 {g : im_g} : im_D g 334 51 (.iconst 0) 52 := im_D.of (by decide +kernel)
theorem D334_52 {g : im_g} : im_D g 334 52 (.ireturn) 53 := im_D.of (by decide +kernel)
theorem D335_0 {g : im_g} : im_D g 335 0 (.aload_n 0) 1 := im_D.of (by decide +kernel)
theorem D335_1 {g : im_g} : im_D g 335 1 (.invokevirtual 707) 4 := im_D.of (by decide +kernel)
theorem D335_4 {g : im_g} : im_D g 335 4 (.aload_n 0) 5 := im_D.of (by decide +kernel)
theorem D335_5 {g : im_g} : im_D g 335 5 (.invokevirtual 620) 8 := im_D.of (by decide +kernel)
theorem D335_8 {g : im_g} : im_D g 335 8 (.aload_n 0) 9 := im_D.of (by decide +kernel)
theorem D335_9 {g : im_g} : im_D g 335 9 (.getfield 591) 12 := im_D.of (by decide +kernel)
theorem D335_12 {g : im_g} : im_D g 335 12 (.iconst 1) 13 := im_D.of (by decide +kernel)
theorem D335_13 {g : im_g} : im_D g 335 13 (.if_icmp .eq 9) 16 := im_D.of (by decide +kernel)
theorem D335_16 {g : im_g} : im_D g 335 16 (.aload_n 0) 17 := im_D.of (by decide +kernel)
theorem D335_17 {g : im_g} : im_D g 335 17 (.invokevirtual 639) 20 := im_D.of (by decide +kernel)
theorem D335_20 {g : im_g} : im_D g 335 20 (.iconst (-1)) 21 := im_D.of (by decide +kernel)
theorem D335_21 {g : im_g} : im_D g 335 21 (.ireturn) 22 := im_D.of (by decide +kernel)
theorem D335_22 {g : im_g} : im_D g 335 22 (.aload_n 0) 23 := im_D.of (by decide +kernel)
theorem D335_23 {g : im_g} : im_D g 335 23 (.invokevirtual 659) 26 := im_D.of (by decide +kernel)
theorem D335_26 {g : im_g} : im_D g 335 26 (.istore_n 1) 27 := im_D.of (by decide +kernel)
theorem D335_27 {g : im_g} : im_D g 335 27 (.aload_n 0) 28 := im_D.of (by decide +kernel)
theorem D335_28 {g : im_g} : im_D g 335 28 (.invokevirtual 649) 31 := im_D.of (by decide +kernel)
theorem D335_31 {g : im_g} : im_D g 335 31 (.aload_n 0) 32 := im_D.of (by decide +kernel)
theorem D335_32 {g : im_g} : im_D g 335 32 (.invokevirtual 716) 35 := im_D.of (by decide +kernel)
theorem D335_35 {g : im_g} : im_D g 335 35 (.iload_n 1) 36 := im_D.of (by decide +kernel)
theorem D335_36 {g : im_g} : im_D g 335 36 (.ireturn) 37 := im_D.of (by decide +kernel)
theorem D336_0 {g : im_g} : im_D g 336 0 (.aload_n 0) 1 := im_D.of (by decide +kernel)
theorem D336_1 {g : im_g} : im_D g 336 1 (.lload_n 1) 2 := im_D.of (by decide +kernel)
theorem D336_2 {g : im_g} : im_D g 336 2 (.invokevirtual 797) 5 := im_D.of (by decide +kernel)
theorem D336_5 {g : im_g} : im_D g 336 5 (.istore_n 3) 6 := im_D.of (by decide +kernel)
theorem D336_6 {g : im_g} : im_D g 336 6 (.iload_n 3) 7 := im_D.of (by decide +kernel)
theorem D336_7 {g : im_g} : im_D g 336 7 (.aload_n 0) 8 := im_D.of (by decide +kernel)
theorem D336_8 {g : im_g} : im_D g 336 8 (.getfield 794) 11 := im_D.of (by decide +kernel)
theorem D336_11 {g : im_g} : im_D g 336 11 (.if_icmp .ge 18) 14 := im_D.of (by decide +kernel)
theorem D336_14 {g : im_g} : im_D g 336 14 (.aload_n 0) 15 := im_D.of (by decide +kernel)
theorem D336_15 {g : im_g} : im_D g 336 15 (.getfield 130) 18 := im_D.of (by decide +kernel)
theorem D336_18 {g : im_g} : im_D g 336 18 (.iload_n 3) 19 := im_D.of (by decide +kernel)
theorem D336_19 {g : im_g} : im_D g 336 19 (.laload) 20 := im_D.of (by decide +kernel)
theorem D336_20 {g : im_g} : im_D g 336 20 (.lload_n 1) 21 := im_D.of (by decide +kernel)
theorem D336_21 {g : im_g} : im_D g 336 21 (.lcmp) 22 := im_D.of (by decide +kernel)
theorem D336_22 {g : im_g} : im_D g 336 22 (.ifCond .ne 7) 25 := im_D.of (by decide +kernel)
theorem D336_25 {g : im_g} : im_D g 336 25 (.iconst 1) 26 := im_D.of (by decide +kernel)
theorem D336_26 {g : im_g} : im_D g 336 26 (.goto 4) 29 := im_D.of (by decide +kernel)
theorem D336_29 {g : im_g} : im_D g 336 29 (.iconst 0) 30 := im_D.of (by decide +kernel)
theorem D336_30 {g : im_g} : im_D g 336 30 (.ireturn) 31 := im_D.of (by decide +kernel)
theorem D337_0 {g : im_g} : im_D g 337 0 (.iconst 0) 1 := im_D.of (by decide +kernel)
theorem D337_1 {g : im_g} : im_D g 337 1 (.istore_n 3) 2 := im_D.of (by decide +kernel)
theorem D337_2 {g : im_g} : im_D g 337 2 (.iload_n 3) 3 := im_D.of (by decide +kernel)
theorem D337_3 {g : im_g} : im_D g 337 3 (.aload_n 0) 4 := im_D.of (by decide +kernel)
theorem D337_4 {g : im_g} : im_D g 337 4 (.getfield 794) 7 := im_D.of (by decide +kernel)
theorem D337_7 {g : im_g} : im_D g 337 7 (.if_icmp .ge 20) 10 := im_D.of (by decide +kernel)
theorem D337_10 {g : im_g} : im_D g 337 10 (.aload_n 0) 11 := im_D.of (by decide +kernel)
theorem D337_11 {g : im_g} : im_D g 337 11 (.getfield 130) 14 := im_D.of (by decide +kernel)
theorem D337_14 {g : im_g} : im_D g 337 14 (.iload_n 3) 15 := im_D.of (by decide +kernel)
theorem D337_15 {g : im_g} : im_D g 337 15 (.laload) 16 := im_D.of (by decide +kernel)
theorem D337_16 {g : im_g} : im_D g 337 16 (.lload_n 1) 17 := im_D.of (by decide +kernel)
theorem D337_17 {g : im_g} : im_D g 337 17 (.lcmp) 18 := im_D.of (by decide +kernel)
theorem D337_18 {g : im_g} : im_D g 337 18 (.ifCond .ge 9) 21 := im_D.of (by decide +kernel)
theorem D337_21 {g : im_g} : im_D g 337 21 (.iinc 3 1) 24 := im_D.of (by decide +kernel)
theorem D337_24 {g : im_g} : im_D g 337 24 (.goto (-22)) 27 := im_D.of (by decide +kernel)
theorem D337_27 {g : im_g} : im_D g 337 27 (.iload_n 3) 28 := im_D.of (by decide +kernel)
theorem D337_28 {g : im_g} : im_D g 337 28 (.ireturn) 29 := im_D.of (by decide +kernel)
theorem D338_0 {g : im_g} : im_D g 338 0 (.aload_n 0) 1 := im_D.of (by decide +kernel)
theorem D338_1 {g : im_g} : im_D g 338 1 (.lload_n 1) 2 := im_D.of (by decide +kernel)
theorem D338_2 {g : im_g} : im_D g 338 2 (.invokevirtual 797) 5 := im_D.of (by decide +kernel)
theorem D338_5 {g : im_g} : im_D g 338 5 (.istore_n 3) 6 := im_D.of (by decide +kernel)
theorem D338_6 {g : im_g} : im_D g 338 6 (.aload_n 0) 7 := im_D.of (by decide +kernel)
theorem D338_7 {g : im_g} : im_D g 338 7 (.lload_n 1) 8 := im_D.of (by decide +kernel)
theorem D338_8 {g : im_g} : im_D g 338 8 (.invokevirtual 809) 11 := im_D.of (by decide +kernel)
theorem D338_11 {g : im_g} : im_D g 338 11 (.ifCond .ne 60) 14 := im_D.of (by decide +kernel)
theorem D338_14 {g : im_g} : im_D g 338 14 (.aload_n 0) 15 := im_D.of (by decide +kernel)
theorem D338_15 {g : im_g} : im_D g 338 15 (.getfield 794) 18 := im_D.of (by decide +kernel)
theorem D338_18 {g : im_g} : im_D g 338 18 (.istore 4) 20 := im_D.of (by decide +kernel)
theorem D338_20 {g : im_g} : im_D g 338 20 (.iload 4) 22 := im_D.of (by decide +kernel)
theorem D338_22 {g : im_g} : im_D g 338 22 (.iload_n 3) 23 := im_D.of (by decide +kernel)
theorem D338_23 {g : im_g} : im_D g 338 23 (.if_icmp .le 38) 26 := im_D.of (by decide +kernel)
theorem D338_26 {g : im_g} : im_D g 338 26 (.aload_n 0) 27 := im_D.of (by decide +kernel)
theorem D338_27 {g : im_g} : im_D g 338 27 (.getfield 130) 30 := im_D.of (by decide +kernel)
theorem D338_30 {g : im_g} : im_D g 338 30 (.iload 4) 32 := im_D.of (by decide +kernel)
theorem D338_32 {g : im_g} : im_D g 338 32 (.aload_n 0) 33 := im_D.of (by decide +kernel)
theorem D338_33 {g : im_g} : im_D g 338 33 (.getfield 130) 36 := im_D.of (by decide +kernel)
theorem D338_36 {g : im_g} : im_D g 338 36 (.iload 4) 38 := im_D.of (by decide +kernel)
theorem D338_38 {g : im_g} : im_D g 338 38 (.iconst 1) 39 := im_D.of (by decide +kernel)
theorem D338_39 {g : im_g} : im_D g 338 39 (.isub) 40 := im_D.of (by decide +kernel)
theorem D338_40 {g : im_g} : im_D g 338 40 (.laload) 41 := im_D.of (by decide +kernel)
theorem D338_41 {g : im_g} : im_D g 338 41 (.lastore) 42 := im_D.of (by decide +kernel)
theorem D338_42 {g : im_g} : im_D g 338 42 (.aload_n 0) 43 := im_D.of (by decide +kernel)
theorem D338_43 {g : im_g} : im_D g 338 43 (.getfield 133) 46 := im_D.of (by decide +kernel)
theorem D338_46 {g : im_g} : im_D g 338 46 (.iload 4) 48 := im_D.of (by decide +kernel)
theorem D338_48 {g : im_g} : im_D g 338 48 (.iconst 1) 49 := im_D.of (by decide +kernel)
theorem D338_49 {g : im_g} : im_D g 338 49 (.isub) 50 := im_D.of (by decide +kernel)
theorem D338_50 {g : im_g} : im_D g 338 50 (.iload 4) 52 := im_D.of (by decide +kernel)
theorem D338_52 {g : im_g} : im_D g 338 52 (.invokestatic 812) 55 := im_D.of (by decide +kernel)
theorem D338_55 {g : im_g} : im_D g 338 55 (.iinc 4 (-1)) 58 := im_D.of (by decide +kernel)
theorem D338_58 {g : im_g} : im_D g 338 58 (.goto (-38)) 61 := im_D.of (by decide +kernel)
theorem D338_61 {g : im_g} : im_D g 338 61 (.aload_n 0) 62 := im_D.of (by decide +kernel)
theorem D338_62 {g : im_g} : im_D g 338 62 (.dup) 63 := im_D.of (by decide +kernel)
theorem D338_63 {g : im_g} : im_D g 338 63 (.getfield 794) 66 := im_D.of (by decide +kernel)
theorem D338_66 {g : im_g} : im_D g 338 66 (.iconst 1) 67 := im_D.of (by decide +kernel)
theorem D338_67 {g : im_g} : im_D g 338 67 (.iadd) 68 := im_D.of (by decide +kernel)
theorem D338_68 {g : im_g} : im_D g 338 68 (.putfield 794) 71 := im_D.of (by decide +kernel)
theorem D338_71 {g : im_g} : im_D g 338 71 (.aload_n 0) 72 := im_D.of (by decide +kernel)
theorem D338_72 {g : im_g} : im_D g 338 72 (.getfield 130) 75 := im_D.of (by decide +kernel)
theorem D338_75 {g : im_g} : im_D g 338 75 (.iload_n 3) 76 := im_D.of (by decide +kernel)
theorem D338_76 {g : im_g} : im_D g 338 76 (.lload_n 1) 77 := im_D.of (by decide +kernel)
theorem D338_77 {g : im_g} : im_D g 338 77 (.lastore) 78 := im_D.of (by decide +kernel)
theorem D338_78 {g : im_g} : im_D g 338 78 (.aload_n 0) 79 := im_D.of (by decide +kernel)
theorem D338_79 {g : im_g} : im_D g 338 79 (.aload_n 0) 80 := im_D.of (by decide +kernel)
theorem D338_80 {g : im_g} : im_D g 338 80 (.getfield 133) 83 := im_D.of (by decide +kernel)
theorem D338_83 {g : im_g} : im_D g 338 83 (.iload_n 3) 84 := im_D.of (by decide +kernel)
theorem D338_84 {g : im_g} : im_D g 338 84 (.aload_n 0) 85 := im_D.of (by decide +kernel)
theorem D338_85 {g : im_g} : im_D g 338 85 (.getfield 806) 88 := im_D.of (by decide +kernel)
theorem D338_88 {g : im_g} : im_D g 338 88 (.invokevirtual 816) 91 := im_D.of (by decide +kernel)
theorem D338_91 {g : im_g} : im_D g 338 91 (.aload_n 0) 92 := im_D.of (by decide +kernel)
theorem D338_92 {g : im_g} : im_D g 338 92 (.getfield 794) 95 := im_D.of (by decide +kernel)
theorem D338_95 {g : im_g} : im_D g 338 95 (.ireturn) 96 := im_D.of (by decide +kernel)
theorem D339_0 {g : im_g} : im_D g 339 0 (.iconst 0) 1 := im_D.of (by decide +kernel)
theorem D339_1 {g : im_g} : im_D g 339 1 (.istore_n 3) 2 := im_D.of (by decide +kernel)
theorem D339_2 {g : im_g} : im_D g 339 2 (.iload_n 3) 3 := im_D.of (by decide +kernel)
theorem D339_3 {g : im_g} : im_D g 339 3 (.sipush 302) 6 := im_D.of (by decide +kernel)
theorem D339_6 {g : im_g} : im_D g 339 6 (.if_icmp .ge 27) 9 := im_D.of (by decide +kernel)
theorem D339_9 {g : im_g} : im_D g 339 9 (.aload_n 0) 10 := im_D.of (by decide +kernel)
theorem D339_10 {g : im_g} : im_D g 339 10 (.sipush 302) 13 := im_D.of (by decide +kernel)
theorem D339_13 {g : im_g} : im_D g 339 13 (.iload_n 2) 14 := im_D.of (by decide +kernel)
theorem D339_14 {g : im_g} : im_D g 339 14 (.imul) 15 := im_D.of (by decide +kernel)
theorem D339_15 {g : im_g} : im_D g 339 15 (.iload_n 3) 16 := im_D.of (by decide +kernel)
theorem D339_16 {g : im_g} : im_D g 339 16 (.iadd) 17 := im_D.of (by decide +kernel)
theorem D339_17 {g : im_g} : im_D g 339 17 (.aload_n 0) 18 := im_D.of (by decide +kernel)
theorem D339_18 {g : im_g} : im_D g 339 18 (.sipush 302) 21 := im_D.of (by decide +kernel)
theorem D339_21 {g : im_g} : im_D g 339 21 (.iload_n 1) 22 := im_D.of (by decide +kernel)
theorem D339_22 {g : im_g} : im_D g 339 22 (.imul) 23 := im_D.of (by decide +kernel)
theorem D339_23 {g : im_g} : im_D g 339 23 (.iload_n 3) 24 := im_D.of (by decide +kernel)
theorem D339_24 {g : im_g} : im_D g 339 24 (.iadd) 25 := im_D.of (by decide +kernel)
theorem D339_25 {g : im_g} : im_D g 339 25 (.iaload) 26 := im_D.of (by decide +kernel)
theorem D339_26 {g : im_g} : im_D g 339 26 (.iastore) 27 := im_D.of (by decide +kernel)
theorem D339_27 {g : im_g} : im_D g 339 27 (.iinc 3 1) 30 := im_D.of (by decide +kernel)
theorem D339_30 {g : im_g} : im_D g 339 30 (.goto (-28)) 33 := im_D.of (by decide +kernel)
theorem D339_33 {g : im_g} : im_D g 339 33 (.return_) 34 := im_D.of (by decide +kernel)
theorem D340_0 {g : im_g} : im_D g 340 0 (.iconst 0) 1 := im_D.of (by decide +kernel)
theorem D340_1 {g : im_g} : im_D g 340 1 (.istore 4) 3 := im_D.of (by decide +kernel)
theorem D340_3 {g : im_g} : im_D g 340 3 (.iload 4) 5 := im_D.of (by decide +kernel)
theorem D340_5 {g : im_g} : im_D g 340 5 (.aload_n 0) 6 := im_D.of (by decide +kernel)
theorem D340_6 {g : im_g} : im_D g 340 6 (.getfield 17) 9 := im_D.of (by decide +kernel)
theorem D340_9 {g : im_g} : im_D g 340 9 (.iload_n 3) 10 := im_D.of (by decide +kernel)
theorem D340_10 {g : im_g} : im_D g 340 10 (.iconst 1) 11 := im_D.of (by decide +kernel)
theorem D340_11 {g : im_g} : im_D g 340 11 (.iadd) 12 := im_D.of (by decide +kernel)
theorem D340_12 {g : im_g} : im_D g 340 12 (.iaload) 13 := im_D.of (by decide +kernel)
theorem D340_13 {g : im_g} : im_D g 340 13 (.iconst 2) 14 := im_D.of (by decide +kernel)
theorem D340_14 {g : im_g} : im_D g 340 14 (.iadd) 15 := im_D.of (by decide +kernel)
theorem D340_15 {g : im_g} : im_D g 340 15 (.if_icmp .ge 28) 18 := im_D.of (by decide +kernel)
theorem D340_18 {g : im_g} : im_D g 340 18 (.aload_n 1) 19 := im_D.of (by decide +kernel)
theorem D340_19 {g : im_g} : im_D g 340 19 (.sipush 302) 22 := im_D.of (by decide +kernel)
theorem D340_22 {g : im_g} : im_D g 340 22 (.iload_n 2) 23 := im_D.of (by decide +kernel)
theorem D340_23 {g : im_g} : im_D g 340 23 (.imul) 24 := im_D.of (by decide +kernel)
theorem D340_24 {g : im_g} : im_D g 340 24 (.iload 4) 26 := im_D.of (by decide +kernel)
theorem D340_26 {g : im_g} : im_D g 340 26 (.iadd) 27 := im_D.of (by decide +kernel)
theorem D340_27 {g : im_g} : im_D g 340 27 (.aload_n 0) 28 := im_D.of (by decide +kernel)
theorem D340_28 {g : im_g} : im_D g 340 28 (.getfield 17) 31 := im_D.of (by decide +kernel)
theorem D340_31 {g : im_g} : im_D g 340 31 (.iload_n 3) 32 := im_D.of (by decide +kernel)
theorem D340_32 {g : im_g} : im_D g 340 32 (.iload 4) 34 := im_D.of (by decide +kernel)
theorem D340_34 {g : im_g} : im_D g 340 34 (.iadd) 35 := im_D.of (by decide +kernel)
theorem D340_35 {g : im_g} : im_D g 340 35 (.iaload) 36 := im_D.of (by decide +kernel)
theorem D340_36 {g : im_g} : im_D g 340 36 (.iastore) 37 := im_D.of (by decide +kernel)
theorem D340_37 {g : im_g} : im_D g 340 37 (.iinc 4 1) 40 := im_D.of (by decide +kernel)
theorem D340_40 {g : im_g} : im_D g 340 40 (.goto (-37)) 43 := im_D.of (by decide +kernel)
theorem D340_43 {g : im_g} : im_D g 340 43 (.return_) 44 := im_D.of (by decide +kernel)
theorem D341_0 {g : im_g} : im_D g 341 0 (.aload_n 0) 1 := im_D.of (by decide +kernel)
theorem D341_1 {g : im_g} : im_D g 341 1 (.iconst 1) 2 := im_D.of (by decide +kernel)
theorem D341_2 {g : im_g} : im_D g 341 2 (.iconst 1) 3 := im_D.of (by decide +kernel)
theorem D341_3 {g : im_g} : im_D g 341 3 (.iconst 1) 4 := im_D.of (by decide +kernel)
theorem D341_4 {g : im_g} : im_D g 341 4 (.iconst 1) 5 := im_D.of (by decide +kernel)
theorem D341_5 {g : im_g} : im_D g 341 5 (.invokevirtual 419) 8 := im_D.of (by decide +kernel)
theorem D341_8 {g : im_g} : im_D g 341 8 (.ifCond .ne 5) 11 := im_D.of (by decide +kernel)
theorem D341_11 {g : im_g} : im_D g 341 11 (.iconst 0) 12 := im_D.of (by decide +kernel)
theorem D341_12 {g : im_g} : im_D g 341 12 (.ireturn) 13 := im_D.of (by decide +kernel)
theorem D341_13 {g : im_g} : im_D g 341 13 (.aload_n 0) 14 := im_D.of (by decide +kernel)
theorem D341_14 {g : im_g} : im_D g 341 14 (.bipush 8) 16 := im_D.of (by decide +kernel)
theorem D341_16 {g : im_g} : im_D g 341 16 (.iconst 0) 17 := im_D.of (by decide +kernel)
theorem D341_17 {g : im_g} : im_D g 341 17 (.lconst 0) 18 := im_D.of (by decide +kernel)
theorem D341_18 {g : im_g} : im_D g 341 18 (.lconst 0) 19 := im_D.of (by decide +kernel)
theorem D341_19 {g : im_g} : im_D g 341 19 (.lconst 0) 20 := im_D.of (by decide +kernel)
theorem D341_20 {g : im_g} : im_D g 341 20 (.iconst 0) 21 := im_D.of (by decide +kernel)
theorem D341_21 {g : im_g} : im_D g 341 21 (.invokevirtual 740) 24 := im_D.of (by decide +kernel)
theorem D341_24 {g : im_g} : im_D g 341 24 (.istore_n 1) 25 := im_D.of (by decide +kernel)
theorem D341_25 {g : im_g} : im_D g 341 25 (.iload_n 1) 26 := im_D.of (by decide +kernel)
theorem D341_26 {g : im_g} : im_D g 341 26 (.bipush (-100)) 28 := im_D.of (by decide +kernel)
theorem D341_28 {g : im_g} : im_D g 341 28 (.if_icmp .ne 10) 31 := im_D.of (by decide +kernel)
theorem D341_31 {g : im_g} : im_D g 341 31 (.aload_n 0) 32 := im_D.of (by decide +kernel)
theorem D341_32 {g : im_g} : im_D g 341 32 (.iconst 1) 33 := im_D.of (by decide +kernel)
theorem D341_33 {g : im_g} : im_D g 341 33 (.putfield 409) 36 := im_D.of (by decide +kernel)
theorem D341_36 {g : im_g} : im_D g 341 36 (.iconst 0) 37 := im_D.of (by decide +kernel)
theorem D341_37 {g : im_g} : im_D g 341 37 (.ireturn) 38 := im_D.of (by decide +kernel)
theorem D341_38 {g : im_g} : im_D g 341 38 (.aload_n 0) 39 := im_D.of (by decide +kernel)
theorem D341_39 {g : im_g} : im_D g 341 39 (.getfield 794) 42 := im_D.of (by decide +kernel)
theorem D341_42 {g : im_g} : im_D g 341 42 (.istore_n 2) 43 := im_D.of (by decide +kernel)
theorem D341_43 {g : im_g} : im_D g 341 43 (.aload_n 0) 44 := im_D.of (by decide +kernel)
theorem D341_44 {g : im_g} : im_D g 341 44 (.iload_n 1) 45 := im_D.of (by decide +kernel)
theorem D341_45 {g : im_g} : im_D g 341 45 (.ifCond .ge 10) 48 := im_D.of (by decide +kernel)
theorem D341_48 {g : im_g} : im_D g 341 48 (.aload_n 0) 49 := im_D.of (by decide +kernel)
theorem D341_49 {g : im_g} : im_D g 341 49 (.getfield 794) 52 := im_D.of (by decide +kernel)
theorem D341_52 {g : im_g} : im_D g 341 52 (.goto 4) 55 := im_D.of (by decide +kernel)
theorem D341_55 {g : im_g} : im_D g 341 55 (.iconst 0) 56 := im_D.of (by decide +kernel)
theorem D341_56 {g : im_g} : im_D g 341 56 (.putfield 794) 59 := im_D.of (by decide +kernel)
theorem D341_59 {g : im_g} : im_D g 341 59 (.iload_n 1) 60 := im_D.of (by decide +kernel)
theorem D341_60 {g : im_g} : im_D g 341 60 (.ifCond .ge 7) 63 := im_D.of (by decide +kernel)
theorem D341_63 {g : im_g} : im_D g 341 63 (.iload_n 1) 64 := im_D.of (by decide +kernel)
theorem D341_64 {g : im_g} : im_D g 341 64 (.goto 4) 67 := im_D.of (by decide +kernel)
theorem D341_67 {g : im_g} : im_D g 341 67 (.iload_n 2) 68 := im_D.of (by decide +kernel)
theorem D341_68 {g : im_g} : im_D g 341 68 (.ireturn) 69 := im_D.of (by decide +kernel)
theorem D342_0 {g : im_g} : im_D g 342 0 (.iload_n 1) 1 := im_D.of (by decide +kernel)
theorem D342_1 {g : im_g} : im_D g 342 1 (.i2l) 2 := im_D.of (by decide +kernel)
theorem D342_2 {g : im_g} : im_D g 342 2 (.lconst 0) 3 := im_D.of (by decide +kernel)
theorem D342_3 {g : im_g} : im_D g 342 3 (.ldc2_w 729) 6 := im_D.of (by decide +kernel)
theorem D342_6 {g : im_g} : im_D g 342 6 (.invokestatic 428) 9 := im_D.of (by decide +kernel)
theorem D342_9 {g : im_g} : im_D g 342 9 (.ifCond .eq 19) 12 := im_D.of (by decide +kernel)
theorem D342_12 {g : im_g} : im_D g 342 12 (.iload_n 2) 13 := im_D.of (by decide +kernel)
theorem D342_13 {g : im_g} : im_D g 342 13 (.i2l) 14 := im_D.of (by decide +kernel)
theorem D342_14 {g : im_g} : im_D g 342 14 (.lconst 0) 15 := im_D.of (by decide +kernel)
theorem D342_15 {g : im_g} : im_D g 342 15 (.ldc2_w 729) 18 := im_D.of (by decide +kernel)
theorem D342_18 {g : im_g} : im_D g 342 18 (.invokestatic 428) 21 := im_D.of (by decide +kernel)
theorem D342_21 {g : im_g} : im_D g 342 21 (.ifCond .eq 7) 24 := im_D.of (by decide +kernel)
theorem D342_24 {g : im_g} : im_D g 342 24 (.iconst 1) 25 := im_D.of (by decide +kernel)
theorem D342_25 {g : im_g} : im_D g 342 25 (.goto 4) 28 := im_D.of (by decide +kernel)
theorem D342_28 {g : im_g} : im_D g 342 28 (.iconst 0) 29 := im_D.of (by decide +kernel)
theorem D342_29 {g : im_g} : im_D g 342 29 (.istore 5) 31 := im_D.of (by decide +kernel)
theorem D342_31 {g : im_g} : im_D g 342 31 (.aload_n 0) 32 := im_D.of (by decide +kernel)
theorem D342_32 {g : im_g} : im_D g 342 32 (.iconst 3) 33 := im_D.of (by decide +kernel)
theorem D342_33 {g : im_g} : im_D g 342 33 (.iload 5) 35 := im_D.of (by decide +kernel)
theorem D342_35 {g : im_g} : im_D g 342 35 (.lload_n 3) 36 := im_D.of (by decide +kernel)
theorem D342_36 {g : im_g} : im_D g 342 36 (.lconst 0) 37 := im_D.of (by decide +kernel)
theorem D342_37 {g : im_g} : im_D g 342 37 (.ldc2_w 672) 40 := im_D.of (by decide +kernel)
theorem D342_40 {g : im_g} : im_D g 342 40 (.invokestatic 428) 43 := im_D.of (by decide +kernel)
theorem D342_43 {g : im_g} : im_D g 342 43 (.iload 5) 45 := im_D.of (by decide +kernel)
theorem D342_45 {g : im_g} : im_D g 342 45 (.ifCond .eq 25) 48 := im_D.of (by decide +kernel)
theorem D342_48 {g : im_g} : im_D g 342 48 (.aload_n 0) 49 := im_D.of (by decide +kernel)
theorem D342_49 {g : im_g} : im_D g 342 49 (.getfield 136) 52 := im_D.of (by decide +kernel)
theorem D342_52 {g : im_g} : im_D g 342 52 (.iload_n 1) 53 := im_D.of (by decide +kernel)
theorem D342_53 {g : im_g} : im_D g 342 53 (.baload) 54 := im_D.of (by decide +kernel)
theorem D342_54 {g : im_g} : im_D g 342 54 (.ifCond .ne 16) 57 := im_D.of (by decide +kernel)
theorem D342_57 {g : im_g} : im_D g 342 57 (.aload_n 0) 58 := im_D.of (by decide +kernel)
theorem D342_58 {g : im_g} : im_D g 342 58 (.getfield 106) 61 := im_D.of (by decide +kernel)
theorem D342_61 {g : im_g} : im_D g 342 61 (.iload_n 2) 62 := im_D.of (by decide +kernel)
theorem D342_62 {g : im_g} : im_D g 342 62 (.baload) 63 := im_D.of (by decide +kernel)
theorem D342_63 {g : im_g} : im_D g 342 63 (.ifCond .eq 7) 66 := im_D.of (by decide +kernel)
theorem D342_66 {g : im_g} : im_D g 342 66 (.iconst 1) 67 := im_D.of (by decide +kernel)
theorem D342_67 {g : im_g} : im_D g 342 67 (.goto 4) 70 := im_D.of (by decide +kernel)
theorem D342_70 {g : im_g} : im_D g 342 70 (.iconst 0) 71 := im_D.of (by decide +kernel)
theorem D342_71 {g : im_g} : im_D g 342 71 (.invokevirtual 419) 74 := im_D.of (by decide +kernel)
theorem D342_74 {g : im_g} : im_D g 342 74 (.ifCond .ne 5) 77 := im_D.of (by decide +kernel)
theorem D342_77 {g : im_g} : im_D g 342 77 (.iconst 0) 78 := im_D.of (by decide +kernel)
theorem D342_78 {g : im_g} : im_D g 342 78 (.ireturn) 79 := im_D.of (by decide +kernel)
theorem D342_79 {g : im_g} : im_D g 342 79 (.aload_n 0) 80 := im_D.of (by decide +kernel)
theorem D342_80 {g : im_g} : im_D g 342 80 (.iload_n 1) 81 := im_D.of (by decide +kernel)
theorem D342_81 {g : im_g} : im_D g 342 81 (.iload_n 2) 82 := im_D.of (by decide +kernel)
theorem D342_82 {g : im_g} : im_D g 342 82 (.lload_n 3) 83 := im_D.of (by decide +kernel)
theorem D342_83 {g : im_g} : im_D g 342 83 (.invokevirtual 832) 86 := im_D.of (by decide +kernel)
theorem D342_86 {g : im_g} : im_D g 342 86 (.istore 6) 88 := im_D.of (by decide +kernel)
theorem D342_88 {g : im_g} : im_D g 342 88 (.iload 6) 90 := im_D.of (by decide +kernel)
theorem D342_90 {g : im_g} : im_D g 342 90 (.ifCond .ne 17) 93 := im_D.of (by decide +kernel)
theorem D342_93 {g : im_g} : im_D g 342 93 (.aload_n 0) 94 := im_D.of (by decide +kernel)
theorem D342_94 {g : im_g} : im_D g 342 94 (.iconst 3) 95 := im_D.of (by decide +kernel)
theorem D342_95 {g : im_g} : im_D g 342 95 (.iconst 3) 96 := im_D.of (by decide +kernel)
theorem D342_96 {g : im_g} : im_D g 342 96 (.iload_n 1) 97 := im_D.of (by decide +kernel)
theorem D342_97 {g : im_g} : im_D g 342 97 (.i2l) 98 := im_D.of (by decide +kernel)
theorem D342_98 {g : im_g} : im_D g 342 98 (.iload_n 2) 99 := im_D.of (by decide +kernel)
theorem D342_99 {g : im_g} : im_D g 342 99 (.i2l) 100 := im_D.of (by decide +kernel)
theorem D342_100 {g : im_g} : im_D g 342 100 (.lload_n 3) 101 := im_D.of (by decide +kernel)
theorem D342_101 {g : im_g} : im_D g 342 101 (.iconst 0) 102 := im_D.of (by decide +kernel)
theorem D342_102 {g : im_g} : im_D g 342 102 (.invokevirtual 740) 105 := im_D.of (by decide +kernel)
theorem D342_105 {g : im_g} : im_D g 342 105 (.istore 6) 107 := im_D.of (by decide +kernel)
theorem D342_107 {g : im_g} : im_D g 342 107 (.iload 6) 109 := im_D.of (by decide +kernel)
theorem D342_109 {g : im_g} : im_D g 342 109 (.bipush (-100)) 111 := im_D.of (by decide +kernel)
theorem D342_111 {g : im_g} : im_D g 342 111 (.if_icmp .ne 10) 114 := im_D.of (by decide +kernel)
theorem D342_114 {g : im_g} : im_D g 342 114 (.aload_n 0) 115 := im_D.of (by decide +kernel)
theorem D342_115 {g : im_g} : im_D g 342 115 (.iconst 3) 116 := im_D.of (by decide +kernel)
theorem D342_116 {g : im_g} : im_D g 342 116 (.putfield 409) 119 := im_D.of (by decide +kernel)
theorem D342_119 {g : im_g} : im_D g 342 119 (.iconst 0) 120 := im_D.of (by decide +kernel)
theorem D342_120 {g : im_g} : im_D g 342 120 (.ireturn) 121 := im_D.of (by decide +kernel)
theorem D342_121 {g : im_g} : im_D g 342 121 (.iload 6) 123 := im_D.of (by decide +kernel)
theorem D342_123 {g : im_g} : im_D g 342 123 (.ifCond .ne 10) 126 := im_D.of (by decide +kernel)
theorem D342_126 {g : im_g} : im_D g 342 126 (.aload_n 0) 127 := im_D.of (by decide +kernel)
theorem D342_127 {g : im_g} : im_D g 342 127 (.iload_n 1) 128 := im_D.of (by decide +kernel)
theorem D342_128 {g : im_g} : im_D g 342 128 (.iload_n 2) 129 := im_D.of (by decide +kernel)
theorem D342_129 {g : im_g} : im_D g 342 129 (.lload_n 3) 130 := im_D.of (by decide +kernel)
theorem D342_130 {g : im_g} : im_D g 342 130 (.invokevirtual 836) 133 := im_D.of (by decide +kernel)
theorem D342_133 {g : im_g} : im_D g 342 133 (.iload 6) 135 := im_D.of (by decide +kernel)
theorem D342_135 {g : im_g} : im_D g 342 135 (.ireturn) 136 := im_D.of (by decide +kernel)
theorem D343_0 {g : im_g} : im_D g 343 0 (.iload_n 1) 1 := im_D.of (by decide +kernel)
theorem D343_1 {g : im_g} : im_D g 343 1 (.i2l) 2 := im_D.of (by decide +kernel)
theorem D343_2 {g : im_g} : im_D g 343 2 (.lconst 0) 3 := im_D.of (by decide +kernel)
theorem D343_3 {g : im_g} : im_D g 343 3 (.ldc2_w 729) 6 := im_D.of (by decide +kernel)
theorem D343_6 {g : im_g} : im_D g 343 6 (.invokestatic 428) 9 := im_D.of (by decide +kernel)
theorem D343_9 {g : im_g} : im_D g 343 9 (.ifCond .eq 30) 12 := im_D.of (by decide +kernel)
theorem D343_12 {g : im_g} : im_D g 343 12 (.iload_n 2) 13 := im_D.of (by decide +kernel)
theorem D343_13 {g : im_g} : im_D g 343 13 (.i2l) 14 := im_D.of (by decide +kernel)
theorem D343_14 {g : im_g} : im_D g 343 14 (.lconst 0) 15 := im_D.of (by decide +kernel)
theorem D343_15 {g : im_g} : im_D g 343 15 (.ldc2_w 729) 18 := im_D.of (by decide +kernel)
theorem D343_18 {g : im_g} : im_D g 343 18 (.invokestatic 428) 21 := im_D.of (by decide +kernel)
theorem D343_21 {g : im_g} : im_D g 343 21 (.ifCond .eq 18) 24 := im_D.of (by decide +kernel)
theorem D343_24 {g : im_g} : im_D g 343 24 (.lload_n 3) 25 := im_D.of (by decide +kernel)
theorem D343_25 {g : im_g} : im_D g 343 25 (.lconst 0) 26 := im_D.of (by decide +kernel)
theorem D343_26 {g : im_g} : im_D g 343 26 (.ldc2_w 672) 29 := im_D.of (by decide +kernel)
theorem D343_29 {g : im_g} : im_D g 343 29 (.invokestatic 428) 32 := im_D.of (by decide +kernel)
theorem D343_32 {g : im_g} : im_D g 343 32 (.ifCond .eq 7) 35 := im_D.of (by decide +kernel)
theorem D343_35 {g : im_g} : im_D g 343 35 (.iconst 1) 36 := im_D.of (by decide +kernel)
theorem D343_36 {g : im_g} : im_D g 343 36 (.goto 4) 39 := im_D.of (by decide +kernel)
theorem D343_39 {g : im_g} : im_D g 343 39 (.iconst 0) 40 := im_D.of (by decide +kernel)
theorem D343_40 {g : im_g} : im_D g 343 40 (.istore 5) 42 := im_D.of (by decide +kernel)
theorem D343_42 {g : im_g} : im_D g 343 42 (.iload 5) 44 := im_D.of (by decide +kernel)
theorem D343_44 {g : im_g} : im_D g 343 44 (.ifCond .eq 21) 47 := im_D.of (by decide +kernel)
theorem D343_47 {g : im_g} : im_D g 343 47 (.aload_n 0) 48 := im_D.of (by decide +kernel)
theorem D343_48 {g : im_g} : im_D g 343 48 (.getfield 136) 51 := im_D.of (by decide +kernel)
theorem D343_51 {g : im_g} : im_D g 343 51 (.iload_n 1) 52 := im_D.of (by decide +kernel)
theorem D343_52 {g : im_g} : im_D g 343 52 (.baload) 53 := im_D.of (by decide +kernel)
theorem D343_53 {g : im_g} : im_D g 343 53 (.ifCond .ne 12) 56 := im_D.of (by decide +kernel)
theorem D343_56 {g : im_g} : im_D g 343 56 (.aload_n 0) 57 := im_D.of (by decide +kernel)
theorem D343_57 {g : im_g} : im_D g 343 57 (.getfield 106) 60 := im_D.of (by decide +kernel)
theorem D343_60 {g : im_g} : im_D g 343 60 (.iload_n 2) 61 := im_D.of (by decide +kernel)
theorem D343_61 {g : im_g} : im_D g 343 61 (.baload) 62 := im_D.of (by decide +kernel)
theorem D343_62 {g : im_g} : im_D g 343 62 (.ifCond .ne 6) 65 := im_D.of (by decide +kernel)
theorem D343_65 {g : im_g} : im_D g 343 65 (.bipush (-101)) 67 := im_D.of (by decide +kernel)
theorem D343_67 {g : im_g} : im_D g 343 67 (.ireturn) 68 := im_D.of (by decide +kernel)
theorem D343_68 {g : im_g} : im_D g 343 68 (.aload_n 0) 69 := im_D.of (by decide +kernel)
theorem D343_69 {g : im_g} : im_D g 343 69 (.aload_n 0) 70 := im_D.of (by decide +kernel)
theorem D343_70 {g : im_g} : im_D g 343 70 (.getfield 617) 73 := im_D.of (by decide +kernel)
theorem D343_73 {g : im_g} : im_D g 343 73 (.putfield 449) 76 := im_D.of (by decide +kernel)
theorem D343_76 {g : im_g} : im_D g 343 76 (.aload_n 0) 77 := im_D.of (by decide +kernel)
theorem D343_77 {g : im_g} : im_D g 343 77 (.iload_n 2) 78 := im_D.of (by decide +kernel)
theorem D343_78 {g : im_g} : im_D g 343 78 (.invokevirtual 829) 81 := im_D.of (by decide +kernel)
theorem D343_81 {g : im_g} : im_D g 343 81 (.ifCond .eq 7) 84 := im_D.of (by decide +kernel)
theorem D343_84 {g : im_g} : im_D g 343 84 (.iconst 0) 85 := im_D.of (by decide +kernel)
theorem D343_85 {g : im_g} : im_D g 343 85 (.goto 5) 88 := im_D.of (by decide +kernel)
theorem D343_88 {g : im_g} : im_D g 343 88 (.bipush (-11)) 90 := im_D.of (by decide +kernel)
theorem D343_90 {g : im_g} : im_D g 343 90 (.ireturn) 91 := im_D.of (by decide +kernel)
theorem D344_0 {g : im_g} : im_D g 344 0 (.iconst 1) 1 := im_D.of (by decide +kernel)
theorem D344_1 {g : im_g} : im_D g 344 1 (.istore_n 2) 2 := im_D.of (by decide +kernel)
theorem D344_2 {g : im_g} : im_D g 344 2 (.aload_n 0) 3 := im_D.of (by decide +kernel)
theorem D344_3 {g : im_g} : im_D g 344 3 (.getfield 109) 6 := im_D.of (by decide +kernel)
theorem D344_6 {g : im_g} : im_D g 344 6 (.iload_n 1) 7 := im_D.of (by decide +kernel)
theorem D344_7 {g : im_g} : im_D g 344 7 (.iaload) 8 := im_D.of (by decide +kernel)
theorem D344_8 {g : im_g} : im_D g 344 8 (.istore_n 3) 9 := im_D.of (by decide +kernel)
theorem D344_9 {g : im_g} : im_D g 344 9 (.iload_n 3) 10 := im_D.of (by decide +kernel)
theorem D344_10 {g : im_g} : im_D g 344 10 (.aload_n 0) 11 := im_D.of (by decide +kernel)
theorem D344_11 {g : im_g} : im_D g 344 11 (.getfield 109) 14 := im_D.of (by decide +kernel)
theorem D344_14 {g : im_g} : im_D g 344 14 (.iload_n 1) 15 := im_D.of (by decide +kernel)
theorem D344_15 {g : im_g} : im_D g 344 15 (.iaload) 16 := im_D.of (by decide +kernel)
theorem D344_16 {g : im_g} : im_D g 344 16 (.aload_n 0) 17 := im_D.of (by decide +kernel)
theorem D344_17 {g : im_g} : im_D g 344 17 (.getfield 112) 20 := im_D.of (by decide +kernel)
theorem D344_20 {g : im_g} : im_D g 344 20 (.iload_n 1) 21 := im_D.of (by decide +kernel)
theorem D344_21 {g : im_g} : im_D g 344 21 (.iaload) 22 := im_D.of (by decide +kernel)
theorem D344_22 {g : im_g} : im_D g 344 22 (.iadd) 23 := im_D.of (by decide +kernel)
theorem D344_23 {g : im_g} : im_D g 344 23 (.if_icmp .ge 125) 26 := im_D.of (by decide +kernel)
theorem D344_26 {g : im_g} : im_D g 344 26 (.iload_n 2) 27 := im_D.of (by decide +kernel)
theorem D344_27 {g : im_g} : im_D g 344 27 (.ifCond .eq 121) 30 := im_D.of (by decide +kernel)
theorem D344_30 {g : im_g} : im_D g 344 30 (.aload_n 0) 31 := im_D.of (by decide +kernel)
theorem D344_31 {g : im_g} : im_D g 344 31 (.getfield 33) 34 := im_D.of (by decide +kernel)
theorem D344_34 {g : im_g} : im_D g 344 34 (.iload_n 3) 35 := im_D.of (by decide +kernel)
theorem D344_35 {g : im_g} : im_D g 344 35 (.iaload) 36 := im_D.of (by decide +kernel)
theorem D344_36 {g : im_g} : im_D g 344 36 (.iconst 5) 37 := im_D.of (by decide +kernel)
theorem D344_37 {g : im_g} : im_D g 344 37 (.if_icmp .ne 16) 40 := im_D.of (by decide +kernel)
theorem D344_40 {g : im_g} : im_D g 344 40 (.aload_n 0) 41 := im_D.of (by decide +kernel)
theorem D344_41 {g : im_g} : im_D g 344 41 (.getfield 63) 44 := im_D.of (by decide +kernel)
theorem D344_44 {g : im_g} : im_D g 344 44 (.iload_n 3) 45 := im_D.of (by decide +kernel)
theorem D344_45 {g : im_g} : im_D g 344 45 (.baload) 46 := im_D.of (by decide +kernel)
theorem D344_46 {g : im_g} : im_D g 344 46 (.ifCond .eq 7) 49 := im_D.of (by decide +kernel)
theorem D344_49 {g : im_g} : im_D g 344 49 (.iconst 1) 50 := im_D.of (by decide +kernel)
theorem D344_50 {g : im_g} : im_D g 344 50 (.goto 4) 53 := im_D.of (by decide +kernel)
theorem D344_53 {g : im_g} : im_D g 344 53 (.iconst 0) 54 := im_D.of (by decide +kernel)
theorem D344_54 {g : im_g} : im_D g 344 54 (.istore 4) 56 := im_D.of (by decide +kernel)
theorem D344_56 {g : im_g} : im_D g 344 56 (.iload 4) 58 := im_D.of (by decide +kernel)
theorem D344_58 {g : im_g} : im_D g 344 58 (.ifCond .ne 14) 61 := im_D.of (by decide +kernel)
theorem D344_61 {g : im_g} : im_D g 344 61 (.aload_n 0) 62 := im_D.of (by decide +kernel)
theorem D344_62 {g : im_g} : im_D g 344 62 (.getfield 33) 65 := im_D.of (by decide +kernel)
theorem D344_65 {g : im_g} : im_D g 344 65 (.iload_n 3) 66 := im_D.of (by decide +kernel)
theorem D344_66 {g : im_g} : im_D g 344 66 (.iaload) 67 := im_D.of (by decide +kernel)
theorem D344_67 {g : im_g} : im_D g 344 67 (.bipush 21) 69 := im_D.of (by decide +kernel)
theorem D344_69 {g : im_g} : im_D g 344 69 (.if_icmp .ne 16) 72 := im_D.of (by decide +kernel)
theorem D344_72 {g : im_g} : im_D g 344 72 (.aload_n 0) 73 := im_D.of (by decide +kernel)
theorem D344_73 {g : im_g} : im_D g 344 73 (.aload_n 0) 74 := im_D.of (by decide +kernel)
theorem D344_74 {g : im_g} : im_D g 344 74 (.getfield 36) 77 := im_D.of (by decide +kernel)
theorem D344_77 {g : im_g} : im_D g 344 77 (.iload_n 3) 78 := im_D.of (by decide +kernel)
theorem D344_78 {g : im_g} : im_D g 344 78 (.laload) 79 := im_D.of (by decide +kernel)
theorem D344_79 {g : im_g} : im_D g 344 79 (.invokevirtual 809) 82 := im_D.of (by decide +kernel)
theorem D344_82 {g : im_g} : im_D g 344 82 (.ifCond .eq 7) 85 := im_D.of (by decide +kernel)
theorem D344_85 {g : im_g} : im_D g 344 85 (.iconst 1) 86 := im_D.of (by decide +kernel)
theorem D344_86 {g : im_g} : im_D g 344 86 (.goto 4) 89 := im_D.of (by decide +kernel)
theorem D344_89 {g : im_g} : im_D g 344 89 (.iconst 0) 90 := im_D.of (by decide +kernel)
theorem D344_90 {g : im_g} : im_D g 344 90 (.istore_n 2) 91 := im_D.of (by decide +kernel)
theorem D344_91 {g : im_g} : im_D g 344 91 (.iload_n 2) 92 := im_D.of (by decide +kernel)
theorem D344_92 {g : im_g} : im_D g 344 92 (.ifCond .eq 50) 95 := im_D.of (by decide +kernel)
theorem D344_95 {g : im_g} : im_D g 344 95 (.iload 4) 97 := im_D.of (by decide +kernel)
theorem D344_97 {g : im_g} : im_D g 344 97 (.ifCond .eq 45) 100 := im_D.of (by decide +kernel)
theorem D344_100 {g : im_g} : im_D g 344 100 (.aload_n 0) 101 := im_D.of (by decide +kernel)
theorem D344_101 {g : im_g} : im_D g 344 101 (.getfield 449) 104 := im_D.of (by decide +kernel)
theorem D344_104 {g : im_g} : im_D g 344 104 (.istore 5) 106 := im_D.of (by decide +kernel)
theorem D344_106 {g : im_g} : im_D g 344 106 (.aload_n 0) 107 := im_D.of (by decide +kernel)
theorem D344_107 {g : im_g} : im_D g 344 107 (.aload_n 0) 108 := im_D.of (by decide +kernel)
theorem D344_108 {g : im_g} : im_D g 344 108 (.aload_n 0) 109 := im_D.of (by decide +kernel)
theorem D344_109 {g : im_g} : im_D g 344 109 (.getfield 133) 112 := im_D.of (by decide +kernel)
theorem D344_112 {g : im_g} : im_D g 344 112 (.aload_n 0) 113 := im_D.of (by decide +kernel)
theorem D344_113 {g : im_g} : im_D g 344 113 (.aload_n 0) 114 := im_D.of (by decide +kernel)
theorem D344_114 {g : im_g} : im_D g 344 114 (.getfield 36) 117 := im_D.of (by decide +kernel)
theorem D344_117 {g : im_g} : im_D g 344 117 (.iload_n 3) 118 := im_D.of (by decide +kernel)
theorem D344_118 {g : im_g} : im_D g 344 118 (.laload) 119 := im_D.of (by decide +kernel)
theorem D344_119 {g : im_g} : im_D g 344 119 (.invokevirtual 797) 122 := im_D.of (by decide +kernel)
theorem D344_122 {g : im_g} : im_D g 344 122 (.invokevirtual 825) 125 := im_D.of (by decide +kernel)
theorem D344_125 {g : im_g} : im_D g 344 125 (.invokevirtual 668) 128 := im_D.of (by decide +kernel)
theorem D344_128 {g : im_g} : im_D g 344 128 (.lconst 0) 129 := im_D.of (by decide +kernel)
theorem D344_129 {g : im_g} : im_D g 344 129 (.ldc2_w 672) 132 := im_D.of (by decide +kernel)
theorem D344_132 {g : im_g} : im_D g 344 132 (.invokestatic 428) 135 := im_D.of (by decide +kernel)
theorem D344_135 {g : im_g} : im_D g 344 135 (.istore_n 2) 136 := im_D.of (by decide +kernel)
theorem D344_136 {g : im_g} : im_D g 344 136 (.aload_n 0) 137 := im_D.of (by decide +kernel)
theorem D344_137 {g : im_g} : im_D g 344 137 (.iload 5) 139 := im_D.of (by decide +kernel)
theorem D344_139 {g : im_g} : im_D g 344 139 (.putfield 449) 142 := im_D.of (by decide +kernel)
theorem D344_142 {g : im_g} : im_D g 344 142 (.iinc 3 1) 145 := im_D.of (by decide +kernel)
theorem D344_145 {g : im_g} : im_D g 344 145 (.goto (-136)) 148 := im_D.of (by decide +kernel)
theorem D344_148 {g : im_g} : im_D g 344 148 (.iload_n 2) 149 := im_D.of (by decide +kernel)
theorem D344_149 {g : im_g} : im_D g 344 149 (.ireturn) 150 := im_D.of (by decide +kernel)
set_option maxRecDepth 20000 in
set_option maxHeartbeats 4000000 in
theorem b_isName_0 {g : im_g} {d : Nat} {e : im_E} {M : im_M} {K : im_K} {p0 : Int} (hd : 1 ≤ d) (hP : (im_i64 p0) ∧ ((p0 ≤ 0 → K (.inl (some (vI 0))) e M) ∧ (0 < p0 → im_T g (d - 1) 281 0 [some (vL p0), none, none, none] [] e M (im_ri (fun x4 e_ M3 => e = e_ ∧ (im_i32 x4) ∧ ((x4 = 0 → im_T g d 333 18 [some (vL p0), none, some (vI 8), none, none, none, none] [] e M3 K) ∧ (¬ x4 = 0 → K (.inl (some (vI 0))) e M3))))))) : im_T g d 333 0 [some (vL p0), none, none, none, none, none, none] [] e M K := by
  refine im_ld (q := 1) (i := 0) D333_0 rfl rfl rfl ?_
  refine im_lconst (q := 2) (z := 0) D333_1 rfl ?_
  obtain ⟨hg1, hP⟩ := hP
  refine im_lif (q := 3) (q2 := 6) (t := 13) D333_2 D333_3 rfl hg1 (by decide) (fun hc2 => ?_) (fun hc2 => ?_)
  · replace hP := hP.1 hc2
    refine im_iconst (q := 14) D333_13 ?_
    exact im_zret (q := 15) D333_14 rfl (by decide) hP
  · replace hP := hP.2 (Int.not_le.mp hc2)
    refine im_ld (q := 7) (i := 0) D333_6 rfl rfl rfl ?_
    refine im_callS (q := 10) (kd := 0) (y := 281) (n := 1) (z := 12) (vs := [vL p0]) (r := []) (L2 := [some (vL p0), none, none, none]) D333_7 rfl (im_cal cn_333 cl_12_573) (Or.inl rfl) rfl rfl rfl rfl rfl hd ⟨rfl, trivial⟩ ?_
    refine hP.mono ?_
    rintro _ e7 M3 ⟨x4, rfl, rfl, hP⟩
    refine im_bkS ?_
    obtain ⟨hg5, hP⟩ := hP
    refine im_ifc (q := 13) (t := 15) D333_10 rfl hg5 (fun hc6 => ?_) (fun hc6 => ?_)
    · replace hP := hP.1 hc6
      refine im_bipush (q := 17) D333_15 rfl ?_
      refine im_st1 (q := 18) (i := 2) (L' := [some (vL p0), none, some (vI 8), none, none, none, none]) D333_17 (Or.inl ⟨_, rfl, rfl⟩) (Nat.le_of_ble_eq_true rfl) rfl ?_
      exact hP.wk ⟨rfl, rfl, trivial⟩
    · replace hP := hP.2 hc6
      refine im_iconst (q := 14) D333_13 ?_
      exact im_zret (q := 15) D333_14 rfl (by decide) hP
set_option maxRecDepth 20000 in
set_option maxHeartbeats 4000000 in
theorem b_isName_18 {g : im_g} {d : Nat} {e : im_E} {M : im_M} {K : im_K} {p0 p2 : Int} (hd : 1 ≤ d) (hP : ((¬ (xland (xlshr p0 (8 * (p2 - 1))) 255) = 0 → im_T g (d - 1) 268 0 [some (vL (xland (xlshr p0 (8 * (p2 - 1))) 255)), none, some (vL 97), none, some (vL 122), none] [] e M (im_ri (fun x3 e_ M2 => e = e_ ∧ im_T g d 333 66 [some (vL p0), none, some (vI p2), some (vI x3), some (vI 0), none, none] [] e M2 K))) ∧ ((xland (xlshr p0 (8 * (p2 - 1))) 255) = 0 → im_T g d 333 18 [some (vL p0), none, some (vI (p2 + (-1))), none, none, none, none] [] e M K))) : im_T g d 333 18 [some (vL p0), none, some (vI p2), none, none, none, none] [] e M K := by
  refine im_ld (q := 19) (i := 0) D333_18 rfl rfl rfl ?_
  refine im_bipush (q := 21) D333_19 rfl ?_
  refine im_ld (q := 22) (i := 2) D333_21 rfl rfl rfl ?_
  refine im_iconst (q := 23) D333_22 ?_
  refine im_isub (q := 24) D333_23 ?_
  refine im_imul (q := 25) D333_24 ?_
  refine im_lshr (q := 26) D333_25 ?_
  refine im_ldc2 (q := 29) (n := 255) D333_26 rfl ?_
  refine im_land (q := 30) D333_29 ?_
  refine im_lconst (q := 31) (z := 0) D333_30 rfl ?_
  refine im_lif (q := 32) (q2 := 35) (t := 41) D333_31 D333_32 rfl (xland_r _ _) (by decide) (fun hc1 => ?_) (fun hc1 => ?_)
  · replace hP := hP.1 hc1
    refine im_ld (q := 42) (i := 0) D333_41 rfl rfl rfl ?_
    refine im_bipush (q := 44) D333_42 rfl ?_
    refine im_ld (q := 45) (i := 2) D333_44 rfl rfl rfl ?_
    refine im_iconst (q := 46) D333_45 ?_
    refine im_isub (q := 47) D333_46 ?_
    refine im_imul (q := 48) D333_47 ?_
    refine im_lshr (q := 49) D333_48 ?_
    refine im_ldc2 (q := 52) (n := 255) D333_49 rfl ?_
    refine im_land (q := 53) D333_52 ?_
    refine im_ldc2 (q := 56) (n := 97) D333_53 rfl ?_
    refine im_ldc2 (q := 59) (n := 122) D333_56 rfl ?_
    refine im_callS (q := 62) (kd := 0) (y := 268) (n := 3) (z := 12) (vs := [vL (xland (xlshr p0 (8 * (p2 - 1))) 255), vL 97, vL 122]) (r := []) (L2 := [some (vL (xland (xlshr p0 (8 * (p2 - 1))) 255)), none, some (vL 97), none, some (vL 122), none]) D333_59 rfl (im_cal cn_333 cl_12_428) (Or.inl rfl) rfl rfl rfl rfl rfl hd ⟨rfl, rfl, rfl, trivial⟩ ?_
    refine hP.mono ?_
    rintro _ e4 M2 ⟨x3, rfl, rfl, hP⟩
    refine im_bkS ?_
    refine im_st1 (q := 63) (i := 3) (L' := [some (vL p0), none, some (vI p2), some (vI x3), none, none, none]) D333_62 (Or.inl ⟨_, rfl, rfl⟩) (Nat.le_of_ble_eq_true rfl) rfl ?_
    refine im_iconst (q := 64) D333_63 ?_
    refine im_st1 (q := 66) (i := 4) (L' := [some (vL p0), none, some (vI p2), some (vI x3), some (vI 0), none, none]) D333_64 (Or.inr rfl) (Nat.le_of_ble_eq_true rfl) rfl ?_
    exact hP.wk ⟨rfl, rfl, rfl, rfl, trivial⟩
  · replace hP := hP.2 (Decidable.not_not.mp hc1)
    refine im_iinc (q := 38) (i := 2) (L' := [some (vL p0), none, some (vI (p2 + (-1))), none, none, none, none]) D333_35 rfl (Nat.le_of_ble_eq_true rfl) rfl ?_
    refine im_goto (q := 41) (t := 18) D333_38 rfl ?_
    exact hP.wk ⟨rfl, rfl, trivial⟩
set_option maxRecDepth 20000 in
set_option maxHeartbeats 4000000 in
theorem b_isName_66 {g : im_g} {d : Nat} {e : im_E} {M : im_M} {K : im_K} {p0 p2 p3 p4 : Int} (hd : 1 ≤ d) (hP : (im_i32 p4) ∧ (im_i32 p2) ∧ ((p2 ≤ p4 → (0 ≤ p3 ∧ p3 ≤ 1) ∧ K (.inl (some (vI p3))) e M) ∧ (p4 < p2 → (im_i32 p3) ∧ ((p3 = 0 → im_T g d 333 66 [some (vL p0), none, some (vI p2), some (vI 0), some (vI (p4 + 1)), none, none] [] e M K) ∧ (¬ p3 = 0 → im_T g (d - 1) 268 0 [some (vL (xland (xlshr p0 (8 * p4)) 255)), none, some (vL 97), none, some (vL 122), none] [] e M (im_ri (fun x8 e_ M7 => e = e_ ∧ (im_i32 x8) ∧ ((¬ x8 = 0 → im_T g d 333 66 [some (vL p0), none, some (vI p2), some (vI 1), some (vI (p4 + 1)), none, none] [] e M7 K) ∧ (x8 = 0 → im_T g (d - 1) 268 0 [some (vL (xland (xlshr p0 (8 * p4)) 255)), none, some (vL 48), none, some (vL 57), none] [] e M7 (im_ri (fun x12 e_ M11 => e = e_ ∧ (im_i32 x12) ∧ ((x12 = 0 → im_T g d 333 66 [some (vL p0), none, some (vI p2), some (vI 0), some (vI (p4 + 1)), none, none] [] e M11 K) ∧ (¬ x12 = 0 → im_T g d 333 66 [some (vL p0), none, some (vI p2), some (vI 1), some (vI (p4 + 1)), none, none] [] e M11 K))))))))))))) : im_T g d 333 66 [some (vL p0), none, some (vI p2), some (vI p3), some (vI p4), none, none] [] e M K := by
  refine im_ld (q := 68) (i := 4) D333_66 rfl rfl rfl ?_
  refine im_ld (q := 69) (i := 2) D333_68 rfl rfl rfl ?_
  obtain ⟨hg1, hP⟩ := hP
  obtain ⟨hg2, hP⟩ := hP
  refine im_icmp (q := 72) (t := 129) D333_69 rfl hg1 hg2 (fun hc3 => ?_) (fun hc3 => ?_)
  · replace hP := hP.1 hc3
    refine im_ld (q := 130) (i := 3) D333_129 rfl rfl rfl ?_
    obtain ⟨hg4, hP⟩ := hP
    exact im_zret (q := 131) D333_130 rfl hg4 hP
  · replace hP := hP.2 (Int.not_le.mp hc3)
    refine im_ld (q := 73) (i := 0) D333_72 rfl rfl rfl ?_
    refine im_bipush (q := 75) D333_73 rfl ?_
    refine im_ld (q := 77) (i := 4) D333_75 rfl rfl rfl ?_
    refine im_imul (q := 78) D333_77 ?_
    refine im_lshr (q := 79) D333_78 ?_
    refine im_ldc2 (q := 82) (n := 255) D333_79 rfl ?_
    refine im_land (q := 83) D333_82 ?_
    refine im_st2 (q := 85) (i := 5) (L' := [some (vL p0), none, some (vI p2), some (vI p3), some (vI p4), some (vL (xland (xlshr p0 (8 * p4)) 255)), none]) D333_83 (Or.inr rfl) (Nat.le_of_ble_eq_true rfl) rfl ?_
    refine im_ld (q := 86) (i := 3) D333_85 rfl rfl rfl ?_
    obtain ⟨hg5, hP⟩ := hP
    refine im_ifc (q := 89) (t := 121) D333_86 rfl hg5 (fun hc6 => ?_) (fun hc6 => ?_)
    · replace hP := hP.1 hc6
      refine im_iconst (q := 122) D333_121 ?_
      refine im_st1 (q := 123) (i := 3) (L' := [some (vL p0), none, some (vI p2), some (vI 0), some (vI p4), some (vL (xland (xlshr p0 (8 * p4)) 255)), none]) D333_122 (Or.inl ⟨_, rfl, rfl⟩) (Nat.le_of_ble_eq_true rfl) rfl ?_
      refine im_iinc (q := 126) (i := 4) (L' := [some (vL p0), none, some (vI p2), some (vI 0), some (vI (p4 + 1)), some (vL (xland (xlshr p0 (8 * p4)) 255)), none]) D333_123 rfl (Nat.le_of_ble_eq_true rfl) rfl ?_
      refine im_goto (q := 129) (t := 66) D333_126 rfl ?_
      exact hP.wk ⟨rfl, rfl, rfl, rfl, trivial⟩
    · replace hP := hP.2 hc6
      refine im_ld (q := 91) (i := 5) D333_89 rfl rfl rfl ?_
      refine im_ldc2 (q := 94) (n := 97) D333_91 rfl ?_
      refine im_ldc2 (q := 97) (n := 122) D333_94 rfl ?_
      refine im_callS (q := 100) (kd := 0) (y := 268) (n := 3) (z := 12) (vs := [vL (xland (xlshr p0 (8 * p4)) 255), vL 97, vL 122]) (r := []) (L2 := [some (vL (xland (xlshr p0 (8 * p4)) 255)), none, some (vL 97), none, some (vL 122), none]) D333_97 rfl (im_cal cn_333 cl_12_428) (Or.inl rfl) rfl rfl rfl rfl rfl hd ⟨rfl, rfl, rfl, trivial⟩ ?_
      refine hP.mono ?_
      rintro _ e16 M7 ⟨x8, rfl, rfl, hP⟩
      refine im_bkS ?_
      obtain ⟨hg9, hP⟩ := hP
      refine im_ifc (q := 103) (t := 117) D333_100 rfl hg9 (fun hc10 => ?_) (fun hc10 => ?_)
      · replace hP := hP.1 hc10
        refine im_iconst (q := 118) D333_117 ?_
        refine im_goto (q := 121) (t := 122) D333_118 rfl ?_
        refine im_st1 (q := 123) (i := 3) (L' := [some (vL p0), none, some (vI p2), some (vI 1), some (vI p4), some (vL (xland (xlshr p0 (8 * p4)) 255)), none]) D333_122 (Or.inl ⟨_, rfl, rfl⟩) (Nat.le_of_ble_eq_true rfl) rfl ?_
        refine im_iinc (q := 126) (i := 4) (L' := [some (vL p0), none, some (vI p2), some (vI 1), some (vI (p4 + 1)), some (vL (xland (xlshr p0 (8 * p4)) 255)), none]) D333_123 rfl (Nat.le_of_ble_eq_true rfl) rfl ?_
        refine im_goto (q := 129) (t := 66) D333_126 rfl ?_
        exact hP.wk ⟨rfl, rfl, rfl, rfl, trivial⟩
      · replace hP := hP.2 (Decidable.not_not.mp hc10)
        refine im_ld (q := 105) (i := 5) D333_103 rfl rfl rfl ?_
        refine im_ldc2 (q := 108) (n := 48) D333_105 rfl ?_
        refine im_ldc2 (q := 111) (n := 57) D333_108 rfl ?_
        refine im_callS (q := 114) (kd := 0) (y := 268) (n := 3) (z := 12) (vs := [vL (xland (xlshr p0 (8 * p4)) 255), vL 48, vL 57]) (r := []) (L2 := [some (vL (xland (xlshr p0 (8 * p4)) 255)), none, some (vL 48), none, some (vL 57), none]) D333_111 rfl (im_cal cn_333 cl_12_428) (Or.inl rfl) rfl rfl rfl rfl rfl hd ⟨rfl, rfl, rfl, trivial⟩ ?_
        refine hP.mono ?_
        rintro _ e15 M11 ⟨x12, rfl, rfl, hP⟩
        refine im_bkS ?_
        obtain ⟨hg13, hP⟩ := hP
        refine im_ifc (q := 117) (t := 121) D333_114 rfl hg13 (fun hc14 => ?_) (fun hc14 => ?_)
        · replace hP := hP.1 hc14
          refine im_iconst (q := 122) D333_121 ?_
          refine im_st1 (q := 123) (i := 3) (L' := [some (vL p0), none, some (vI p2), some (vI 0), some (vI p4), some (vL (xland (xlshr p0 (8 * p4)) 255)), none]) D333_122 (Or.inl ⟨_, rfl, rfl⟩) (Nat.le_of_ble_eq_true rfl) rfl ?_
          refine im_iinc (q := 126) (i := 4) (L' := [some (vL p0), none, some (vI p2), some (vI 0), some (vI (p4 + 1)), some (vL (xland (xlshr p0 (8 * p4)) 255)), none]) D333_123 rfl (Nat.le_of_ble_eq_true rfl) rfl ?_
          refine im_goto (q := 129) (t := 66) D333_126 rfl ?_
          exact hP.wk ⟨rfl, rfl, rfl, rfl, trivial⟩
        · replace hP := hP.2 hc14
          refine im_iconst (q := 118) D333_117 ?_
          refine im_goto (q := 121) (t := 122) D333_118 rfl ?_
          refine im_st1 (q := 123) (i := 3) (L' := [some (vL p0), none, some (vI p2), some (vI 1), some (vI p4), some (vL (xland (xlshr p0 (8 * p4)) 255)), none]) D333_122 (Or.inl ⟨_, rfl, rfl⟩) (Nat.le_of_ble_eq_true rfl) rfl ?_
          refine im_iinc (q := 126) (i := 4) (L' := [some (vL p0), none, some (vI p2), some (vI 1), some (vI (p4 + 1)), some (vL (xland (xlshr p0 (8 * p4)) 255)), none]) D333_123 rfl (Nat.le_of_ble_eq_true rfl) rfl ?_
          refine im_goto (q := 129) (t := 66) D333_126 rfl ?_
          exact hP.wk ⟨rfl, rfl, rfl, rfl, trivial⟩
set_option maxRecDepth 20000 in
set_option maxHeartbeats 4000000 in
theorem b_tryParameter_0 {g : im_g} {d : Nat} {e : im_E} {M : im_M} {K : im_K} {p1 : Int} (hd : 1 ≤ d) (hP : im_T g (d - 1) 333 0 [some (vL p1), none, none, none, none, none, none] [] e M (im_ri (fun x2 e_ M1 => e = e_ ∧ (im_i32 x2) ∧ ((¬ x2 = 0 → im_T g (d - 1) 335 0 [some (.ref 6952), none] [] e M1 (im_ri (fun x6 e_ M5 => e = e_ ∧ (im_i32 x6) ∧ (((M5 6952 19) ≤ 0 → im_T g (d - 1) 336 0 [some (.ref 6952), some (vL p1), none, none] [] e (im_u M5 6952 65 x6) (im_ri (fun x11 e_ M10 => e = e_ ∧ (im_i32 x11) ∧ ((((x11 = 0 → (((M10 6952 62) = 20 → K (.inl (some (vI (-9)))) e M10))))) ∧ ((((¬ x11 = 0)) ∨ ((x11 = 0) ∧ (¬ (M10 6952 62) = 20))) → K (.inl (some (vI 0))) e M10))))) ∧ (0 < (M5 6952 19) → K (.inl (some (vI (-1)))) e (im_u M5 6952 65 x6)))))) ∧ (x2 = 0 → K (.inl (some (vI (-101)))) e M1))))) : im_T g d 334 0 [some (.ref 6952), some (vL p1), none] [] e M K := by
  refine im_ld (q := 1) (i := 1) D334_0 rfl rfl rfl ?_
  refine im_callS (q := 4) (kd := 0) (y := 333) (n := 1) (z := 12) (vs := [vL p1]) (r := []) (L2 := [some (vL p1), none, none, none, none, none, none]) D334_1 rfl (im_cal cn_334 cl_12_800) (Or.inl rfl) rfl rfl rfl rfl rfl hd ⟨rfl, trivial⟩ ?_
  refine hP.mono ?_
  rintro _ e21 M1 ⟨x2, rfl, rfl, hP⟩
  refine im_bkS ?_
  obtain ⟨hg3, hP⟩ := hP
  refine im_ifc (q := 7) (t := 10) D334_4 rfl hg3 (fun hc4 => ?_) (fun hc4 => ?_)
  · replace hP := hP.1 hc4
    refine im_ld (q := 11) (i := 0) D334_10 rfl rfl rfl ?_
    refine im_ld (q := 12) (i := 0) D334_11 rfl rfl rfl ?_
    refine im_callV (q := 15) (kd := 1) (y := 335) (n := 0) (ci := 12) (a := 6952) (vs := [.ref 6952]) (r := [.ref 6952]) (L2 := [some (.ref 6952), none]) D334_12 (im_cal cn_334 cl_12_803) (Or.inl rfl) rfl sf_6952 rfl rfl rfl rfl hd ⟨rfl, trivial⟩ ?_
    refine hP.mono ?_
    rintro _ e20 M5 ⟨x6, rfl, rfl, hP⟩
    refine im_bkS ?_
    obtain ⟨hg7, hP⟩ := hP
    refine im_pfI (q := 18) D334_15 (im_fl cn_334 fl_12_806) sf_6952 rfl rfl ti_12_65 hg7 ?_
    refine im_ld (q := 19) (i := 0) D334_18 rfl rfl rfl ?_
    refine im_rng (j := 19) sf_6952 (by decide) (by decide) (fun hr8 => ?_)
    refine im_gfI (q := 22) D334_19 (im_fl cn_334 fl_12_403) sf_6952 rfl rfl tI_12_19 (im_rdk _ _ _ (by decide)) ?_
    refine im_ifc (q := 25) (t := 29) D334_22 rfl (im_rgc hr8 (im_rdk _ _ _ (by decide))) (fun hc9 => ?_) (fun hc9 => ?_)
    · replace hP := hP.1 hc9
      refine im_ld (q := 30) (i := 0) D334_29 rfl rfl rfl ?_
      refine im_ld (q := 31) (i := 1) D334_30 rfl rfl rfl ?_
      refine im_callV (q := 34) (kd := 1) (y := 336) (n := 1) (ci := 12) (a := 6952) (vs := [.ref 6952, vL p1]) (r := []) (L2 := [some (.ref 6952), some (vL p1), none, none]) D334_31 (im_cal cn_334 cl_12_809) (Or.inl rfl) rfl sf_6952 rfl rfl rfl rfl hd ⟨rfl, rfl, trivial⟩ ?_
      refine hP.mono ?_
      rintro _ e19 M10 ⟨x11, rfl, rfl, hP⟩
      refine im_bkS ?_
      obtain ⟨hg12, hP⟩ := hP
      obtain ⟨hP, hJ16⟩ := hP
      have kJ17 : (((¬ x11 = 0)) ∨ ((x11 = 0) ∧ (¬ (M10 6952 62) = 20))) → im_T g d 334 51 [none, none, none] [] e M10 K := by
        intro  hx18
        have hP := hJ16  hx18
        refine im_iconst (q := 52) D334_51 ?_
        exact im_iret (q := 53) D334_52 rfl hP
      refine im_ifc (q := 37) (t := 51) D334_34 rfl hg12 (fun hc13 => ?_) (fun hc13 => ?_)
      · exact (kJ17  (Or.inl hc13)).wk trivial
      · replace hP := hP (Decidable.not_not.mp hc13)
        refine im_ld (q := 38) (i := 0) D334_37 rfl rfl rfl ?_
        refine im_rng (j := 62) sf_6952 (by decide) (by decide) (fun hr14 => ?_)
        refine im_gfI (q := 41) D334_38 (im_fl cn_334 fl_12_794) sf_6952 rfl rfl tI_12_62 rfl ?_
        refine im_bipush (q := 43) D334_41 rfl ?_
        refine im_icmp (q := 46) (t := 51) D334_43 rfl hr14 (by decide) (fun hc15 => ?_) (fun hc15 => ?_)
        · exact (kJ17  (Or.inr ⟨(Decidable.not_not.mp hc13), hc15⟩)).wk trivial
        · replace hP := hP (Decidable.not_not.mp hc15)
          refine im_bipush (q := 48) D334_46 rfl ?_
          refine im_goto (q := 51) (t := 52) D334_48 rfl ?_
          exact im_iret (q := 53) D334_52 rfl hP
    · replace hP := hP.2 (Int.not_le.mp hc9)
      refine im_iconst (q := 26) D334_25 ?_
      refine im_goto (q := 29) (t := 52) D334_26 rfl ?_
      exact im_iret (q := 53) D334_52 rfl hP
  · replace hP := hP.2 (Decidable.not_not.mp hc4)
    refine im_bipush (q := 9) D334_7 rfl ?_
    exact im_iret (q := 10) D334_9 rfl hP
set_option maxRecDepth 20000 in
set_option maxHeartbeats 4000000 in
theorem b_readNumber_0 {g : im_g} {d : Nat} {e : im_E} {M : im_M} {K : im_K} (hd : 1 ≤ d) (hP : im_T g (d - 1) 274 0 [some (.ref 6952)] [] e M (im_r0 (fun  e_ M1 => e = e_ ∧ im_T g (d - 1) 277 0 [some (.ref 6952), none] [] e M1 (im_r0 (fun  e_ M2 => e = e_ ∧ (((M2 6952 15) = 1 → im_T g (d - 1) 291 0 [some (.ref 6952), none, none, none, none] [] e M2 (im_ri (fun x6 e_ M5 => e = e_ ∧ im_T g (d - 1) 282 0 [some (.ref 6952)] [] e M5 (im_r0 (fun  e_ M7 => e = e_ ∧ im_T g (d - 1) 306 0 [some (.ref 6952)] [] e M7 (im_r0 (fun  e_ M8 => e = e_ ∧ K (.inl (some (vI x6))) e M8))))))) ∧ (¬ (M2 6952 15) = 1 → im_T g (d - 1) 285 0 [some (.ref 6952)] [] e M2 (im_r0 (fun  e_ M12 => e = e_ ∧ K (.inl (some (vI (-1)))) e M12))))))))) : im_T g d 335 0 [some (.ref 6952), none] [] e M K := by
  refine im_ld (q := 1) (i := 0) D335_0 rfl rfl rfl ?_
  refine im_callV (q := 4) (kd := 1) (y := 274) (n := 0) (ci := 12) (a := 6952) (vs := [.ref 6952]) (r := []) (L2 := [some (.ref 6952)]) D335_1 (im_cal cn_335 cl_12_707) (Or.inl rfl) rfl sf_6952 rfl rfl rfl rfl hd ⟨rfl, trivial⟩ ?_
  refine hP.mono ?_
  rintro _ e15 M1 ⟨rfl, rfl, hP⟩
  refine im_bkN ?_
  refine im_ld (q := 5) (i := 0) D335_4 rfl rfl rfl ?_
  refine im_callV (q := 8) (kd := 1) (y := 277) (n := 0) (ci := 12) (a := 6952) (vs := [.ref 6952]) (r := []) (L2 := [some (.ref 6952), none]) D335_5 (im_cal cn_335 cl_12_620) (Or.inl rfl) rfl sf_6952 rfl rfl rfl rfl hd ⟨rfl, trivial⟩ ?_
  refine hP.mono ?_
  rintro _ e14 M2 ⟨rfl, rfl, hP⟩
  refine im_bkN ?_
  refine im_ld (q := 9) (i := 0) D335_8 rfl rfl rfl ?_
  refine im_rng (j := 15) sf_6952 (by decide) (by decide) (fun hr3 => ?_)
  refine im_gfI (q := 12) D335_9 (im_fl cn_335 fl_12_591) sf_6952 rfl rfl tI_12_15 rfl ?_
  refine im_iconst (q := 13) D335_12 ?_
  refine im_icmp (q := 16) (t := 22) D335_13 rfl hr3 (by decide) (fun hc4 => ?_) (fun hc4 => ?_)
  · replace hP := hP.1 hc4
    refine im_ld (q := 23) (i := 0) D335_22 rfl rfl rfl ?_
    refine im_callV (q := 26) (kd := 1) (y := 291) (n := 0) (ci := 12) (a := 6952) (vs := [.ref 6952]) (r := []) (L2 := [some (.ref 6952), none, none, none, none]) D335_23 (im_cal cn_335 cl_12_659) (Or.inl rfl) rfl sf_6952 rfl rfl rfl rfl hd ⟨rfl, trivial⟩ ?_
    refine hP.mono ?_
    rintro _ e11 M5 ⟨x6, rfl, rfl, hP⟩
    refine im_bkS ?_
    refine im_st1 (q := 27) (i := 1) (L' := [some (.ref 6952), some (vI x6)]) D335_26 (Or.inl ⟨_, rfl, rfl⟩) (Nat.le_of_ble_eq_true rfl) rfl ?_
    refine im_ld (q := 28) (i := 0) D335_27 rfl rfl rfl ?_
    refine im_callV (q := 31) (kd := 1) (y := 282) (n := 0) (ci := 12) (a := 6952) (vs := [.ref 6952]) (r := []) (L2 := [some (.ref 6952)]) D335_28 (im_cal cn_335 cl_12_649) (Or.inl rfl) rfl sf_6952 rfl rfl rfl rfl hd ⟨rfl, trivial⟩ ?_
    refine hP.mono ?_
    rintro _ e10 M7 ⟨rfl, rfl, hP⟩
    refine im_bkN ?_
    refine im_ld (q := 32) (i := 0) D335_31 rfl rfl rfl ?_
    refine im_callV (q := 35) (kd := 1) (y := 306) (n := 0) (ci := 12) (a := 6952) (vs := [.ref 6952]) (r := []) (L2 := [some (.ref 6952)]) D335_32 (im_cal cn_335 cl_12_716) (Or.inl rfl) rfl sf_6952 rfl rfl rfl rfl hd ⟨rfl, trivial⟩ ?_
    refine hP.mono ?_
    rintro _ e9 M8 ⟨rfl, rfl, hP⟩
    refine im_bkN ?_
    refine im_ld (q := 36) (i := 1) D335_35 rfl rfl rfl ?_
    exact im_iret (q := 37) D335_36 rfl hP
  · replace hP := hP.2 hc4
    refine im_ld (q := 17) (i := 0) D335_16 rfl rfl rfl ?_
    refine im_callV (q := 20) (kd := 1) (y := 285) (n := 0) (ci := 12) (a := 6952) (vs := [.ref 6952]) (r := []) (L2 := [some (.ref 6952)]) D335_17 (im_cal cn_335 cl_12_639) (Or.inl rfl) rfl sf_6952 rfl rfl rfl rfl hd ⟨rfl, trivial⟩ ?_
    refine hP.mono ?_
    rintro _ e13 M12 ⟨rfl, rfl, hP⟩
    refine im_bkN ?_
    refine im_iconst (q := 21) D335_20 ?_
    exact im_iret (q := 22) D335_21 rfl hP
set_option maxRecDepth 20000 in
set_option maxHeartbeats 4000000 in
theorem b_hasParameter_0 {g : im_g} {d : Nat} {e : im_E} {M : im_M} {K : im_K} {p1 : Int} (hd : 1 ≤ d) (hP : im_T g (d - 1) 337 0 [some (.ref 6952), some (vL p1), none, none] [] e M (im_ri (fun x2 e_ M1 => e = e_ ∧ (im_i32 x2) ∧ ((((x2 < (M1 6952 62) → (0 ≤ x2 ∧ x2 < 21) ∧ (im_i64 p1) ∧ (((M1 6992 x2) = p1 → K (.inl (some (vI 1))) e M1))))) ∧ (((((M1 6952 62) ≤ x2)) ∨ ((x2 < (M1 6952 62)) ∧ (¬ (M1 6992 x2) = p1))) → K (.inl (some (vI 0))) e M1))))) : im_T g d 336 0 [some (.ref 6952), some (vL p1), none, none] [] e M K := by
  refine im_ld (q := 1) (i := 0) D336_0 rfl rfl rfl ?_
  refine im_ld (q := 2) (i := 1) D336_1 rfl rfl rfl ?_
  refine im_callV (q := 5) (kd := 1) (y := 337) (n := 1) (ci := 12) (a := 6952) (vs := [.ref 6952, vL p1]) (r := []) (L2 := [some (.ref 6952), some (vL p1), none, none]) D336_2 (im_cal cn_336 cl_12_797) (Or.inl rfl) rfl sf_6952 rfl rfl rfl rfl hd ⟨rfl, rfl, trivial⟩ ?_
  refine hP.mono ?_
  rintro _ e13 M1 ⟨x2, rfl, rfl, hP⟩
  refine im_bkS ?_
  refine im_st1 (q := 6) (i := 3) (L' := [some (.ref 6952), some (vL p1), none, some (vI x2)]) D336_5 (Or.inl ⟨_, rfl, rfl⟩) (Nat.le_of_ble_eq_true rfl) rfl ?_
  refine im_ld (q := 7) (i := 3) D336_6 rfl rfl rfl ?_
  refine im_ld (q := 8) (i := 0) D336_7 rfl rfl rfl ?_
  refine im_rng (j := 62) sf_6952 (by decide) (by decide) (fun hr3 => ?_)
  refine im_gfI (q := 11) D336_8 (im_fl cn_336 fl_12_794) sf_6952 rfl rfl tI_12_62 rfl ?_
  obtain ⟨hg4, hP⟩ := hP
  obtain ⟨hP, hJ10⟩ := hP
  have kJ11 : ((((M1 6952 62) ≤ x2)) ∨ ((x2 < (M1 6952 62)) ∧ (¬ (M1 6992 x2) = p1))) → im_T g d 336 29 [none, none, none, none] [] e M1 K := by
    intro  hx12
    have hP := hJ10  hx12
    refine im_iconst (q := 30) D336_29 ?_
    exact im_zret (q := 31) D336_30 rfl (by decide) hP
  refine im_icmp (q := 14) (t := 29) D336_11 rfl hg4 hr3 (fun hc5 => ?_) (fun hc5 => ?_)
  · exact (kJ11  (Or.inl hc5)).wk trivial
  · replace hP := hP (Int.not_le.mp hc5)
    refine im_ld (q := 15) (i := 0) D336_14 rfl rfl rfl ?_
    refine im_gfR (q := 18) (b := 6992) D336_15 (im_fl cn_336 fl_12_130) sf_6952 rfl rfl tR_12_63 rf_6952_63 ?_
    refine im_ld (q := 19) (i := 3) D336_18 rfl rfl rfl ?_
    obtain ⟨hg6, hP⟩ := hP
    refine im_rng (j := x2) sf_6992 hg6.1 hg6.2 (fun hr7 => ?_)
    refine im_lald (q := 20) D336_19 sf_6992 hg6.1 hg6.2 (by decide) rfl ?_
    refine im_ld (q := 21) (i := 1) D336_20 rfl rfl rfl ?_
    obtain ⟨hg8, hP⟩ := hP
    refine im_lif (q := 22) (q2 := 25) (t := 29) D336_21 D336_22 rfl hr7 hg8 (fun hc9 => ?_) (fun hc9 => ?_)
    · exact (kJ11  (Or.inr ⟨(Int.not_le.mp hc5), hc9⟩)).wk trivial
    · replace hP := hP (Decidable.not_not.mp hc9)
      refine im_iconst (q := 26) D336_25 ?_
      refine im_goto (q := 29) (t := 30) D336_26 rfl ?_
      exact im_zret (q := 31) D336_30 rfl (by decide) hP
set_option maxRecDepth 20000 in
set_option maxHeartbeats 4000000 in
theorem b_parameterAt_0 {g : im_g} {d : Nat} {e : im_E} {M : im_M} {K : im_K} {p1 : Int} (hP : im_T g d 337 2 [some (.ref 6952), some (vL p1), none, some (vI 0)] [] e M K) : im_T g d 337 0 [some (.ref 6952), some (vL p1), none, none] [] e M K := by
  refine im_iconst (q := 1) D337_0 ?_
  refine im_st1 (q := 2) (i := 3) (L' := [some (.ref 6952), some (vL p1), none, some (vI 0)]) D337_1 (Or.inl ⟨_, rfl, rfl⟩) (Nat.le_of_ble_eq_true rfl) rfl ?_
  exact hP.wk ⟨rfl, rfl, rfl, trivial⟩
set_option maxRecDepth 20000 in
set_option maxHeartbeats 4000000 in
theorem b_parameterAt_2 {g : im_g} {d : Nat} {e : im_E} {M : im_M} {K : im_K} {p1 p3 : Int} (hP : (im_i32 p3) ∧ ((((p3 < (M 6952 62) → (0 ≤ p3 ∧ p3 < 21) ∧ (im_i64 p1) ∧ (((M 6992 p3) < p1 → im_T g d 337 2 [some (.ref 6952), some (vL p1), none, some (vI (p3 + 1))] [] e M K))))) ∧ (((((M 6952 62) ≤ p3)) ∨ ((p3 < (M 6952 62)) ∧ (p1 ≤ (M 6992 p3)))) → K (.inl (some (vI p3))) e M))) : im_T g d 337 2 [some (.ref 6952), some (vL p1), none, some (vI p3)] [] e M K := by
  refine im_ld (q := 3) (i := 3) D337_2 rfl rfl rfl ?_
  refine im_ld (q := 4) (i := 0) D337_3 rfl rfl rfl ?_
  refine im_rng (j := 62) sf_6952 (by decide) (by decide) (fun hr1 => ?_)
  refine im_gfI (q := 7) D337_4 (im_fl cn_337 fl_12_794) sf_6952 rfl rfl tI_12_62 rfl ?_
  obtain ⟨hg2, hP⟩ := hP
  obtain ⟨hP, hJ8⟩ := hP
  have kJ9 : ((((M 6952 62) ≤ p3)) ∨ ((p3 < (M 6952 62)) ∧ (p1 ≤ (M 6992 p3)))) → im_T g d 337 27 [none, none, none, some (vI p3)] [] e M K := by
    intro  hx10
    have hP := hJ8  hx10
    refine im_ld (q := 28) (i := 3) D337_27 rfl rfl rfl ?_
    exact im_iret (q := 29) D337_28 rfl hP
  refine im_icmp (q := 10) (t := 27) D337_7 rfl hg2 hr1 (fun hc3 => ?_) (fun hc3 => ?_)
  · exact (kJ9  (Or.inl hc3)).wk ⟨rfl, trivial⟩
  · replace hP := hP (Int.not_le.mp hc3)
    refine im_ld (q := 11) (i := 0) D337_10 rfl rfl rfl ?_
    refine im_gfR (q := 14) (b := 6992) D337_11 (im_fl cn_337 fl_12_130) sf_6952 rfl rfl tR_12_63 rf_6952_63 ?_
    refine im_ld (q := 15) (i := 3) D337_14 rfl rfl rfl ?_
    obtain ⟨hg4, hP⟩ := hP
    refine im_rng (j := p3) sf_6992 hg4.1 hg4.2 (fun hr5 => ?_)
    refine im_lald (q := 16) D337_15 sf_6992 hg4.1 hg4.2 (by decide) rfl ?_
    refine im_ld (q := 17) (i := 1) D337_16 rfl rfl rfl ?_
    obtain ⟨hg6, hP⟩ := hP
    refine im_lif (q := 18) (q2 := 21) (t := 27) D337_17 D337_18 rfl hr5 hg6 (fun hc7 => ?_) (fun hc7 => ?_)
    · exact (kJ9  (Or.inr ⟨(Int.not_le.mp hc3), hc7⟩)).wk ⟨rfl, trivial⟩
    · replace hP := hP (Int.not_le.mp hc7)
      refine im_iinc (q := 24) (i := 3) (L' := [some (.ref 6952), some (vL p1), none, some (vI (p3 + 1))]) D337_21 rfl (Nat.le_of_ble_eq_true rfl) rfl ?_
      refine im_goto (q := 27) (t := 2) D337_24 rfl ?_
      exact hP.wk ⟨rfl, rfl, rfl, trivial⟩
set_option maxRecDepth 20000 in
set_option maxHeartbeats 4000000 in
theorem b_doParameter_0 {g : im_g} {d : Nat} {e : im_E} {M : im_M} {K : im_K} {p1 : Int} (hd : 1 ≤ d) (hP : im_T g (d - 1) 337 0 [some (.ref 6952), some (vL p1), none, none] [] e M (im_ri (fun x2 e_ M1 => e = e_ ∧ im_T g (d - 1) 336 0 [some (.ref 6952), some (vL p1), none, none] [] e M1 (im_ri (fun x4 e_ M3 => e = e_ ∧ (im_i32 x4) ∧ ((¬ x4 = 0 → (0 ≤ x2 ∧ x2 < 21) ∧ (im_i64 p1) ∧ im_T g (d - 1) 340 0 [some (.ref 6952), some (.ref 6993), some (vI x2), some (vI (M3 6952 65)), none] [] e (im_u M3 6992 x2 p1) (im_r0 (fun  e_ M11 => e = e_ ∧ K (.inl (some (vI (M11 6952 62)))) e M11))) ∧ (x4 = 0 → im_T g d 338 20 [some (.ref 6952), some (vL p1), none, some (vI x2), some (vI (M3 6952 62))] [] e M3 K))))))) : im_T g d 338 0 [some (.ref 6952), some (vL p1), none, none, none] [] e M K := by
  refine im_ld (q := 1) (i := 0) D338_0 rfl rfl rfl ?_
  refine im_ld (q := 2) (i := 1) D338_1 rfl rfl rfl ?_
  refine im_callV (q := 5) (kd := 1) (y := 337) (n := 1) (ci := 12) (a := 6952) (vs := [.ref 6952, vL p1]) (r := []) (L2 := [some (.ref 6952), some (vL p1), none, none]) D338_2 (im_cal cn_338 cl_12_797) (Or.inl rfl) rfl sf_6952 rfl rfl rfl rfl hd ⟨rfl, rfl, trivial⟩ ?_
  refine hP.mono ?_
  rintro _ e15 M1 ⟨x2, rfl, rfl, hP⟩
  refine im_bkS ?_
  refine im_st1 (q := 6) (i := 3) (L' := [some (.ref 6952), some (vL p1), none, some (vI x2), none]) D338_5 (Or.inl ⟨_, rfl, rfl⟩) (Nat.le_of_ble_eq_true rfl) rfl ?_
  refine im_ld (q := 7) (i := 0) D338_6 rfl rfl rfl ?_
  refine im_ld (q := 8) (i := 1) D338_7 rfl rfl rfl ?_
  refine im_callV (q := 11) (kd := 1) (y := 336) (n := 1) (ci := 12) (a := 6952) (vs := [.ref 6952, vL p1]) (r := []) (L2 := [some (.ref 6952), some (vL p1), none, none]) D338_8 (im_cal cn_338 cl_12_809) (Or.inl rfl) rfl sf_6952 rfl rfl rfl rfl hd ⟨rfl, rfl, trivial⟩ ?_
  refine hP.mono ?_
  rintro _ e14 M3 ⟨x4, rfl, rfl, hP⟩
  refine im_bkS ?_
  obtain ⟨hg5, hP⟩ := hP
  refine im_ifc (q := 14) (t := 71) D338_11 rfl hg5 (fun hc6 => ?_) (fun hc6 => ?_)
  · replace hP := hP.1 hc6
    refine im_ld (q := 72) (i := 0) D338_71 rfl rfl rfl ?_
    refine im_gfR (q := 75) (b := 6992) D338_72 (im_fl cn_338 fl_12_130) sf_6952 rfl rfl tR_12_63 rf_6952_63 ?_
    refine im_ld (q := 76) (i := 3) D338_75 rfl rfl rfl ?_
    refine im_ld (q := 77) (i := 1) D338_76 rfl rfl rfl ?_
    obtain ⟨hg8, hP⟩ := hP
    obtain ⟨hg9, hP⟩ := hP
    refine im_last (q := 78) D338_77 sf_6992 hg8.1 hg8.2 (by decide) hg9 ?_
    refine im_ld (q := 79) (i := 0) D338_78 rfl rfl rfl ?_
    refine im_ld (q := 80) (i := 0) D338_79 rfl rfl rfl ?_
    refine im_gfR (q := 83) (b := 6993) D338_80 (im_fl cn_338 fl_12_133) sf_6952 rfl rfl tR_12_64 rf_6952_64 ?_
    refine im_ld (q := 84) (i := 3) D338_83 rfl rfl rfl ?_
    refine im_ld (q := 85) (i := 0) D338_84 rfl rfl rfl ?_
    refine im_rng (j := 65) sf_6952 (by decide) (by decide) (fun hr10 => ?_)
    refine im_gfI (q := 88) D338_85 (im_fl cn_338 fl_12_806) sf_6952 rfl rfl tI_12_65 (im_rdn _ _ _ _ (by decide)) ?_
    refine im_callV (q := 91) (kd := 1) (y := 340) (n := 3) (ci := 12) (a := 6952) (vs := [.ref 6952, .ref 6993, vI x2, vI (M3 6952 65)]) (r := []) (L2 := [some (.ref 6952), some (.ref 6993), some (vI x2), some (vI (M3 6952 65)), none]) D338_88 (im_cal cn_338 cl_12_816) (Or.inl rfl) rfl sf_6952 rfl rfl rfl rfl hd ⟨rfl, rfl, rfl, rfl, trivial⟩ ?_
    refine hP.mono ?_
    rintro _ e13 M11 ⟨rfl, rfl, hP⟩
    refine im_bkN ?_
    refine im_ld (q := 92) (i := 0) D338_91 rfl rfl rfl ?_
    refine im_rng (j := 62) sf_6952 (by decide) (by decide) (fun hr12 => ?_)
    refine im_gfI (q := 95) D338_92 (im_fl cn_338 fl_12_794) sf_6952 rfl rfl tI_12_62 rfl ?_
    exact im_iret (q := 96) D338_95 rfl hP
  · replace hP := hP.2 (Decidable.not_not.mp hc6)
    refine im_ld (q := 15) (i := 0) D338_14 rfl rfl rfl ?_
    refine im_rng (j := 62) sf_6952 (by decide) (by decide) (fun hr7 => ?_)
    refine im_gfI (q := 18) D338_15 (im_fl cn_338 fl_12_794) sf_6952 rfl rfl tI_12_62 rfl ?_
    refine im_st1 (q := 20) (i := 4) (L' := [some (.ref 6952), some (vL p1), none, some (vI x2), some (vI (M3 6952 62))]) D338_18 (Or.inr rfl) (Nat.le_of_ble_eq_true rfl) rfl ?_
    exact hP.wk ⟨rfl, rfl, rfl, rfl, trivial⟩
set_option maxRecDepth 20000 in
set_option maxHeartbeats 4000000 in
theorem b_doParameter_20 {g : im_g} {d : Nat} {e : im_E} {M : im_M} {K : im_K} {p1 p3 p4 : Int} (hd : 1 ≤ d) (hP : (im_i32 p4) ∧ (im_i32 p3) ∧ ((p4 ≤ p3 → (im_i32 ((M 6952 62) + 1)) ∧ (0 ≤ p3 ∧ p3 < 21) ∧ (im_i64 p1) ∧ im_T g (d - 1) 340 0 [some (.ref 6952), some (.ref 6993), some (vI p3), some (vI (M 6952 65)), none] [] e (im_u (im_u M 6952 62 ((M 6952 62) + 1)) 6992 p3 p1) (im_r0 (fun  e_ M11 => e = e_ ∧ K (.inl (some (vI (M11 6952 62)))) e M11))) ∧ (p3 < p4 → (0 ≤ (p4 - 1) ∧ (p4 - 1) < 21) ∧ (0 ≤ p4 ∧ p4 < 21) ∧ im_T g (d - 1) 339 0 [some (.ref 6993), some (vI (p4 - 1)), some (vI p4), none] [] e (im_u M 6992 p4 (M 6992 (p4 - 1))) (im_r0 (fun  e_ M15 => e = e_ ∧ im_T g d 338 20 [some (.ref 6952), some (vL p1), none, some (vI p3), some (vI (p4 + (-1)))] [] e M15 K))))) : im_T g d 338 20 [some (.ref 6952), some (vL p1), none, some (vI p3), some (vI p4)] [] e M K := by
  refine im_ld (q := 22) (i := 4) D338_20 rfl rfl rfl ?_
  refine im_ld (q := 23) (i := 3) D338_22 rfl rfl rfl ?_
  obtain ⟨hg1, hP⟩ := hP
  obtain ⟨hg2, hP⟩ := hP
  refine im_icmp (q := 26) (t := 61) D338_23 rfl hg1 hg2 (fun hc3 => ?_) (fun hc3 => ?_)
  · replace hP := hP.1 hc3
    refine im_ld (q := 62) (i := 0) D338_61 rfl rfl rfl ?_
    refine im_dup (q := 63) D338_62 rfl ?_
    refine im_rng (j := 62) sf_6952 (by decide) (by decide) (fun hr4 => ?_)
    refine im_gfI (q := 66) D338_63 (im_fl cn_338 fl_12_794) sf_6952 rfl rfl tI_12_62 rfl ?_
    refine im_iconst (q := 67) D338_66 ?_
    refine im_iadd (q := 68) D338_67 ?_
    obtain ⟨hg7, hP⟩ := hP
    refine im_pfI (q := 71) D338_68 (im_fl cn_338 fl_12_794) sf_6952 rfl rfl ti_12_62 hg7 ?_
    refine im_ld (q := 72) (i := 0) D338_71 rfl rfl rfl ?_
    refine im_gfR (q := 75) (b := 6992) D338_72 (im_fl cn_338 fl_12_130) sf_6952 rfl rfl tR_12_63 rf_6952_63 ?_
    refine im_ld (q := 76) (i := 3) D338_75 rfl rfl rfl ?_
    refine im_ld (q := 77) (i := 1) D338_76 rfl rfl rfl ?_
    obtain ⟨hg8, hP⟩ := hP
    obtain ⟨hg9, hP⟩ := hP
    refine im_last (q := 78) D338_77 sf_6992 hg8.1 hg8.2 (by decide) hg9 ?_
    refine im_ld (q := 79) (i := 0) D338_78 rfl rfl rfl ?_
    refine im_ld (q := 80) (i := 0) D338_79 rfl rfl rfl ?_
    refine im_gfR (q := 83) (b := 6993) D338_80 (im_fl cn_338 fl_12_133) sf_6952 rfl rfl tR_12_64 rf_6952_64 ?_
    refine im_ld (q := 84) (i := 3) D338_83 rfl rfl rfl ?_
    refine im_ld (q := 85) (i := 0) D338_84 rfl rfl rfl ?_
    refine im_rng (j := 65) sf_6952 (by decide) (by decide) (fun hr10 => ?_)
    refine im_gfI (q := 88) D338_85 (im_fl cn_338 fl_12_806) sf_6952 rfl rfl tI_12_65 ((im_rdn _ _ _ _ (by decide)).trans (im_rdk _ _ _ (by decide))) ?_
    refine im_callV (q := 91) (kd := 1) (y := 340) (n := 3) (ci := 12) (a := 6952) (vs := [.ref 6952, .ref 6993, vI p3, vI (M 6952 65)]) (r := []) (L2 := [some (.ref 6952), some (.ref 6993), some (vI p3), some (vI (M 6952 65)), none]) D338_88 (im_cal cn_338 cl_12_816) (Or.inl rfl) rfl sf_6952 rfl rfl rfl rfl hd ⟨rfl, rfl, rfl, rfl, trivial⟩ ?_
    refine hP.mono ?_
    rintro _ e13 M11 ⟨rfl, rfl, hP⟩
    refine im_bkN ?_
    refine im_ld (q := 92) (i := 0) D338_91 rfl rfl rfl ?_
    refine im_rng (j := 62) sf_6952 (by decide) (by decide) (fun hr12 => ?_)
    refine im_gfI (q := 95) D338_92 (im_fl cn_338 fl_12_794) sf_6952 rfl rfl tI_12_62 rfl ?_
    exact im_iret (q := 96) D338_95 rfl hP
  · replace hP := hP.2 (Int.not_le.mp hc3)
    refine im_ld (q := 27) (i := 0) D338_26 rfl rfl rfl ?_
    refine im_gfR (q := 30) (b := 6992) D338_27 (im_fl cn_338 fl_12_130) sf_6952 rfl rfl tR_12_63 rf_6952_63 ?_
    refine im_ld (q := 32) (i := 4) D338_30 rfl rfl rfl ?_
    refine im_ld (q := 33) (i := 0) D338_32 rfl rfl rfl ?_
    refine im_gfR (q := 36) (b := 6992) D338_33 (im_fl cn_338 fl_12_130) sf_6952 rfl rfl tR_12_63 rf_6952_63 ?_
    refine im_ld (q := 38) (i := 4) D338_36 rfl rfl rfl ?_
    refine im_iconst (q := 39) D338_38 ?_
    refine im_isub (q := 40) D338_39 ?_
    obtain ⟨hg5, hP⟩ := hP
    refine im_rng (j := (p4 - 1)) sf_6992 hg5.1 hg5.2 (fun hr6 => ?_)
    refine im_lald (q := 41) D338_40 sf_6992 hg5.1 hg5.2 (by decide) rfl ?_
    obtain ⟨hg14, hP⟩ := hP
    refine im_last (q := 42) D338_41 sf_6992 hg14.1 hg14.2 (by decide) hr6 ?_
    refine im_ld (q := 43) (i := 0) D338_42 rfl rfl rfl ?_
    refine im_gfR (q := 46) (b := 6993) D338_43 (im_fl cn_338 fl_12_133) sf_6952 rfl rfl tR_12_64 rf_6952_64 ?_
    refine im_ld (q := 48) (i := 4) D338_46 rfl rfl rfl ?_
    refine im_iconst (q := 49) D338_48 ?_
    refine im_isub (q := 50) D338_49 ?_
    refine im_ld (q := 52) (i := 4) D338_50 rfl rfl rfl ?_
    refine im_callS (q := 55) (kd := 0) (y := 339) (n := 3) (z := 12) (vs := [.ref 6993, vI (p4 - 1), vI p4]) (r := []) (L2 := [some (.ref 6993), some (vI (p4 - 1)), some (vI p4), none]) D338_52 rfl (im_cal cn_338 cl_12_812) (Or.inl rfl) rfl rfl rfl rfl rfl hd ⟨rfl, rfl, rfl, trivial⟩ ?_
    refine hP.mono ?_
    rintro _ e16 M15 ⟨rfl, rfl, hP⟩
    refine im_bkN ?_
    refine im_iinc (q := 58) (i := 4) (L' := [some (.ref 6952), some (vL p1), none, some (vI p3), some (vI (p4 + (-1)))]) D338_55 rfl (Nat.le_of_ble_eq_true rfl) rfl ?_
    refine im_goto (q := 61) (t := 20) D338_58 rfl ?_
    exact hP.wk ⟨rfl, rfl, rfl, rfl, trivial⟩
set_option maxRecDepth 20000 in
set_option maxHeartbeats 4000000 in
theorem b_moveNumber_0 {g : im_g} {d : Nat} {e : im_E} {M : im_M} {K : im_K} {p1 p2 : Int} {p0 n0 : Nat} (hs0 : (im_sh0 ++ e)[p0]? = some (1, n0, [])) (hn0 : n0 ≤ 2147483647) (hP : im_T g d 339 2 [some (.ref p0), some (vI p1), some (vI p2), some (vI 0)] [] e M K) : im_T g d 339 0 [some (.ref p0), some (vI p1), some (vI p2), none] [] e M K := by
  refine im_iconst (q := 1) D339_0 ?_
  refine im_st1 (q := 2) (i := 3) (L' := [some (.ref p0), some (vI p1), some (vI p2), some (vI 0)]) D339_1 (Or.inl ⟨_, rfl, rfl⟩) (Nat.le_of_ble_eq_true rfl) rfl ?_
  exact hP.wk ⟨rfl, rfl, rfl, rfl, trivial⟩
set_option maxRecDepth 20000 in
set_option maxHeartbeats 4000000 in
theorem b_moveNumber_2 {g : im_g} {d : Nat} {e : im_E} {M : im_M} {K : im_K} {p1 p2 p3 : Int} {p0 n0 : Nat} (hs0 : (im_sh0 ++ e)[p0]? = some (1, n0, [])) (hn0 : n0 ≤ 2147483647) (hP : (im_i32 p3) ∧ ((302 ≤ p3 → K (.inl none) e M) ∧ (p3 < 302 → (0 ≤ ((302 * p1) + p3) ∧ ((302 * p1) + p3) < n0) ∧ (0 ≤ ((302 * p2) + p3) ∧ ((302 * p2) + p3) < n0) ∧ im_T g d 339 2 [some (.ref p0), some (vI p1), some (vI p2), some (vI (p3 + 1))] [] e (im_u M p0 ((302 * p2) + p3) (M p0 ((302 * p1) + p3))) K))) : im_T g d 339 2 [some (.ref p0), some (vI p1), some (vI p2), some (vI p3)] [] e M K := by
  refine im_ld (q := 3) (i := 3) D339_2 rfl rfl rfl ?_
  refine im_sipush (q := 6) D339_3 rfl ?_
  obtain ⟨hg1, hP⟩ := hP
  refine im_icmp (q := 9) (t := 33) D339_6 rfl hg1 (by decide) (fun hc2 => ?_) (fun hc2 => ?_)
  · replace hP := hP.1 hc2
    exact im_vret (q := 34) D339_33 rfl hP
  · replace hP := hP.2 (Int.not_le.mp hc2)
    refine im_ld (q := 10) (i := 0) D339_9 rfl rfl rfl ?_
    refine im_sipush (q := 13) D339_10 rfl ?_
    refine im_ld (q := 14) (i := 2) D339_13 rfl rfl rfl ?_
    refine im_imul (q := 15) D339_14 ?_
    refine im_ld (q := 16) (i := 3) D339_15 rfl rfl rfl ?_
    refine im_iadd (q := 17) D339_16 ?_
    refine im_ld (q := 18) (i := 0) D339_17 rfl rfl rfl ?_
    refine im_sipush (q := 21) D339_18 rfl ?_
    refine im_ld (q := 22) (i := 1) D339_21 rfl rfl rfl ?_
    refine im_imul (q := 23) D339_22 ?_
    refine im_ld (q := 24) (i := 3) D339_23 rfl rfl rfl ?_
    refine im_iadd (q := 25) D339_24 ?_
    obtain ⟨hg3, hP⟩ := hP
    refine im_rng (j := ((302 * p1) + p3)) hs0 hg3.1 hg3.2 (fun hr4 => ?_)
    refine im_iald (q := 26) D339_25 hs0 hg3.1 hg3.2 hn0 rfl ?_
    obtain ⟨hg5, hP⟩ := hP
    refine im_iast (q := 27) D339_26 hs0 hg5.1 hg5.2 hn0 hr4 ?_
    refine im_iinc (q := 30) (i := 3) (L' := [some (.ref p0), some (vI p1), some (vI p2), some (vI (p3 + 1))]) D339_27 rfl (Nat.le_of_ble_eq_true rfl) rfl ?_
    refine im_goto (q := 33) (t := 2) D339_30 rfl ?_
    exact hP.wk ⟨rfl, rfl, rfl, rfl, trivial⟩
set_option maxRecDepth 20000 in
set_option maxHeartbeats 4000000 in
theorem b_save_0 {g : im_g} {d : Nat} {e : im_E} {M : im_M} {K : im_K} {p2 p3 : Int} {p1 n1 : Nat} (hs1 : (im_sh0 ++ e)[p1]? = some (1, n1, [])) (hn1 : n1 ≤ 2147483647) (hP : im_T g d 340 3 [some (.ref 6952), some (.ref p1), some (vI p2), some (vI p3), some (vI 0)] [] e M K) : im_T g d 340 0 [some (.ref 6952), some (.ref p1), some (vI p2), some (vI p3), none] [] e M K := by
  refine im_iconst (q := 1) D340_0 ?_
  refine im_st1 (q := 3) (i := 4) (L' := [some (.ref 6952), some (.ref p1), some (vI p2), some (vI p3), some (vI 0)]) D340_1 (Or.inr rfl) (Nat.le_of_ble_eq_true rfl) rfl ?_
  exact hP.wk ⟨rfl, rfl, rfl, rfl, rfl, trivial⟩
set_option maxRecDepth 20000 in
set_option maxHeartbeats 4000000 in
theorem b_save_3 {g : im_g} {d : Nat} {e : im_E} {M : im_M} {K : im_K} {p2 p3 p4 : Int} {p1 n1 : Nat} (hs1 : (im_sh0 ++ e)[p1]? = some (1, n1, [])) (hn1 : n1 ≤ 2147483647) (hP : (0 ≤ (p3 + 1) ∧ (p3 + 1) < 1100000) ∧ (im_i32 p4) ∧ (im_i32 ((M 6955 (p3 + 1)) + 2)) ∧ ((((M 6955 (p3 + 1)) + 2) ≤ p4 → K (.inl none) e M) ∧ (p4 < ((M 6955 (p3 + 1)) + 2) → (0 ≤ (p3 + p4) ∧ (p3 + p4) < 1100000) ∧ (0 ≤ ((302 * p2) + p4) ∧ ((302 * p2) + p4) < n1) ∧ im_T g d 340 3 [some (.ref 6952), some (.ref p1), some (vI p2), some (vI p3), some (vI (p4 + 1))] [] e (im_u M p1 ((302 * p2) + p4) (M 6955 (p3 + p4))) K))) : im_T g d 340 3 [some (.ref 6952), some (.ref p1), some (vI p2), some (vI p3), some (vI p4)] [] e M K := by
  refine im_ld (q := 5) (i := 4) D340_3 rfl rfl rfl ?_
  refine im_ld (q := 6) (i := 0) D340_5 rfl rfl rfl ?_
  refine im_gfR (q := 9) (b := 6955) D340_6 (im_fl cn_340 fl_12_17) sf_6952 rfl rfl tR_12_5 rf_6952_5 ?_
  refine im_ld (q := 10) (i := 3) D340_9 rfl rfl rfl ?_
  refine im_iconst (q := 11) D340_10 ?_
  refine im_iadd (q := 12) D340_11 ?_
  obtain ⟨hg1, hP⟩ := hP
  refine im_rng (j := (p3 + 1)) sf_6955 hg1.1 hg1.2 (fun hr2 => ?_)
  refine im_iald (q := 13) D340_12 sf_6955 hg1.1 hg1.2 (by decide) rfl ?_
  refine im_iconst (q := 14) D340_13 ?_
  refine im_iadd (q := 15) D340_14 ?_
  obtain ⟨hg3, hP⟩ := hP
  obtain ⟨hg4, hP⟩ := hP
  refine im_icmp (q := 18) (t := 43) D340_15 rfl hg3 hg4 (fun hc5 => ?_) (fun hc5 => ?_)
  · replace hP := hP.1 hc5
    exact im_vret (q := 44) D340_43 rfl hP
  · replace hP := hP.2 (Int.not_le.mp hc5)
    refine im_ld (q := 19) (i := 1) D340_18 rfl rfl rfl ?_
    refine im_sipush (q := 22) D340_19 rfl ?_
    refine im_ld (q := 23) (i := 2) D340_22 rfl rfl rfl ?_
    refine im_imul (q := 24) D340_23 ?_
    refine im_ld (q := 26) (i := 4) D340_24 rfl rfl rfl ?_
    refine im_iadd (q := 27) D340_26 ?_
    refine im_ld (q := 28) (i := 0) D340_27 rfl rfl rfl ?_
    refine im_gfR (q := 31) (b := 6955) D340_28 (im_fl cn_340 fl_12_17) sf_6952 rfl rfl tR_12_5 rf_6952_5 ?_
    refine im_ld (q := 32) (i := 3) D340_31 rfl rfl rfl ?_
    refine im_ld (q := 34) (i := 4) D340_32 rfl rfl rfl ?_
    refine im_iadd (q := 35) D340_34 ?_
    obtain ⟨hg6, hP⟩ := hP
    refine im_rng (j := (p3 + p4)) sf_6955 hg6.1 hg6.2 (fun hr7 => ?_)
    refine im_iald (q := 36) D340_35 sf_6955 hg6.1 hg6.2 (by decide) rfl ?_
    obtain ⟨hg8, hP⟩ := hP
    refine im_iast (q := 37) D340_36 hs1 hg8.1 hg8.2 hn1 hr7 ?_
    refine im_iinc (q := 40) (i := 4) (L' := [some (.ref 6952), some (.ref p1), some (vI p2), some (vI p3), some (vI (p4 + 1))]) D340_37 rfl (Nat.le_of_ble_eq_true rfl) rfl ?_
    refine im_goto (q := 43) (t := 3) D340_40 rfl ?_
    exact hP.wk ⟨rfl, rfl, rfl, rfl, rfl, trivial⟩
set_option maxRecDepth 20000 in
set_option maxHeartbeats 4000000 in
theorem b_forget_0 {g : im_g} {d : Nat} {e : im_E} {M : im_M} {K : im_K} (hd : 1 ≤ d) (hP : im_T g (d - 1) 264 0 [some (.ref 6952), some (vI 1), some (vI 1), some (vI 1), some (vI 1)] [] e M (im_ri (fun x2 e_ M1 => e = e_ ∧ (im_i32 x2) ∧ ((¬ x2 = 0 → im_T g (d - 1) 307 0 [some (.ref 6952), some (vI 8), some (vI 0), some (vL 0), none, some (vL 0), none, some (vL 0), none, some (vI 0), none, none, none, none] [] e M1 (im_ri (fun x6 e_ M5 => e = e_ ∧ (im_i32 x6) ∧ ((¬ x6 = (-100) → ((∀ x12 : Int, (((0 ≤ x6) ∧ x12 = 0) ∨ ((x6 < 0) ∧ x12 = (M5 6952 62))) → (im_i32 x12) ∧ ((∀ x18 : Int, (((0 ≤ x6) ∧ x18 = (M5 6952 62)) ∨ ((x6 < 0) ∧ x18 = x6)) → K (.inl (some (vI x18))) e (im_u M5 6952 62 x12)))))) ∧ (x6 = (-100) → K (.inl (some (vI 0))) e (im_u M5 6952 0 1)))))) ∧ (x2 = 0 → K (.inl (some (vI 0))) e M1))))) : im_T g d 341 0 [some (.ref 6952), none, none] [] e M K := by
  refine im_ld (q := 1) (i := 0) D341_0 rfl rfl rfl ?_
  refine im_iconst (q := 2) D341_1 ?_
  refine im_iconst (q := 3) D341_2 ?_
  refine im_iconst (q := 4) D341_3 ?_
  refine im_iconst (q := 5) D341_4 ?_
  refine im_callV (q := 8) (kd := 1) (y := 264) (n := 4) (ci := 12) (a := 6952) (vs := [.ref 6952, vI 1, vI 1, vI 1, vI 1]) (r := []) (L2 := [some (.ref 6952), some (vI 1), some (vI 1), some (vI 1), some (vI 1)]) D341_5 (im_cal cn_341 cl_12_419) (Or.inl rfl) rfl sf_6952 rfl rfl rfl rfl hd ⟨rfl, rfl, rfl, rfl, rfl, trivial⟩ ?_
  refine hP.mono ?_
  rintro _ e23 M1 ⟨x2, rfl, rfl, hP⟩
  refine im_bkS ?_
  obtain ⟨hg3, hP⟩ := hP
  refine im_ifc (q := 11) (t := 13) D341_8 rfl hg3 (fun hc4 => ?_) (fun hc4 => ?_)
  · replace hP := hP.1 hc4
    refine im_ld (q := 14) (i := 0) D341_13 rfl rfl rfl ?_
    refine im_bipush (q := 16) D341_14 rfl ?_
    refine im_iconst (q := 17) D341_16 ?_
    refine im_lconst (q := 18) (z := 0) D341_17 rfl ?_
    refine im_lconst (q := 19) (z := 0) D341_18 rfl ?_
    refine im_lconst (q := 20) (z := 0) D341_19 rfl ?_
    refine im_iconst (q := 21) D341_20 ?_
    refine im_callV (q := 24) (kd := 1) (y := 307) (n := 6) (ci := 12) (a := 6952) (vs := [.ref 6952, vI 8, vI 0, vL 0, vL 0, vL 0, vI 0]) (r := []) (L2 := [some (.ref 6952), some (vI 8), some (vI 0), some (vL 0), none, some (vL 0), none, some (vL 0), none, some (vI 0), none, none, none, none]) D341_21 (im_cal cn_341 cl_12_740) (Or.inl rfl) rfl sf_6952 rfl rfl rfl rfl hd ⟨rfl, rfl, rfl, rfl, rfl, rfl, rfl, trivial⟩ ?_
    refine hP.mono ?_
    rintro _ e22 M5 ⟨x6, rfl, rfl, hP⟩
    refine im_bkS ?_
    refine im_st1 (q := 25) (i := 1) (L' := [some (.ref 6952), some (vI x6), none]) D341_24 (Or.inl ⟨_, rfl, rfl⟩) (Nat.le_of_ble_eq_true rfl) rfl ?_
    refine im_ld (q := 26) (i := 1) D341_25 rfl rfl rfl ?_
    refine im_bipush (q := 28) D341_26 rfl ?_
    obtain ⟨hg7, hP⟩ := hP
    refine im_icmp (q := 31) (t := 38) D341_28 rfl hg7 (by decide) (fun hc8 => ?_) (fun hc8 => ?_)
    · replace hP := hP.1 hc8
      refine im_ld (q := 39) (i := 0) D341_38 rfl rfl rfl ?_
      refine im_rng (j := 62) sf_6952 (by decide) (by decide) (fun hr9 => ?_)
      refine im_gfI (q := 42) D341_39 (im_fl cn_341 fl_12_794) sf_6952 rfl rfl tI_12_62 rfl ?_
      refine im_st1 (q := 43) (i := 2) (L' := [some (.ref 6952), some (vI x6), some (vI (M5 6952 62))]) D341_42 (Or.inl ⟨_, rfl, rfl⟩) (Nat.le_of_ble_eq_true rfl) rfl ?_
      refine im_ld (q := 44) (i := 0) D341_43 rfl rfl rfl ?_
      refine im_ld (q := 45) (i := 1) D341_44 rfl rfl rfl ?_
      have hJ13 := hP
      have kJ14 : ∀ x12 : Int, (((0 ≤ x6) ∧ x12 = 0) ∨ ((x6 < 0) ∧ x12 = (M5 6952 62))) → im_T g d 341 56 [none, some (vI x6), some (vI (M5 6952 62))] [vI x12, .ref 6952] e M5 K := by
        intro x12 hx15
        have hP := hJ13 x12 hx15
        obtain ⟨hg16, hP⟩ := hP
        refine im_pfI (q := 59) D341_56 (im_fl cn_341 fl_12_794) sf_6952 rfl rfl ti_12_62 hg16 ?_
        refine im_ld (q := 60) (i := 1) D341_59 rfl rfl rfl ?_
        have hJ19 := hP
        have kJ20 : ∀ x18 : Int, (((0 ≤ x6) ∧ x18 = (M5 6952 62)) ∨ ((x6 < 0) ∧ x18 = x6)) → im_T g d 341 68 [none, none, none] [vI x18] e (im_u M5 6952 62 x12) K := by
          intro x18 hx21
          have hP := hJ19 x18 hx21
          exact im_iret (q := 69) D341_68 rfl hP
        refine im_ifc (q := 63) (t := 67) D341_60 rfl hg7 (fun hc17 => ?_) (fun hc17 => ?_)
        · refine im_ld (q := 68) (i := 2) D341_67 rfl rfl rfl ?_
          exact (kJ20 ((M5 6952 62)) (Or.inl ⟨hc17, rfl⟩)).wk trivial
        · refine im_ld (q := 64) (i := 1) D341_63 rfl rfl rfl ?_
          refine im_goto (q := 67) (t := 68) D341_64 rfl ?_
          exact (kJ20 (x6) (Or.inr ⟨(Int.not_le.mp hc17), rfl⟩)).wk trivial
      refine im_ifc (q := 48) (t := 55) D341_45 rfl hg7 (fun hc10 => ?_) (fun hc10 => ?_)
      · refine im_iconst (q := 56) D341_55 ?_
        exact (kJ14 (0) (Or.inl ⟨hc10, rfl⟩)).wk ⟨rfl, rfl, trivial⟩
      · refine im_ld (q := 49) (i := 0) D341_48 rfl rfl rfl ?_
        refine im_gfI (q := 52) D341_49 (im_fl cn_341 fl_12_794) sf_6952 rfl rfl tI_12_62 rfl ?_
        refine im_goto (q := 55) (t := 56) D341_52 rfl ?_
        exact (kJ14 ((M5 6952 62)) (Or.inr ⟨(Int.not_le.mp hc10), rfl⟩)).wk ⟨rfl, rfl, trivial⟩
    · replace hP := hP.2 (Decidable.not_not.mp hc8)
      refine im_ld (q := 32) (i := 0) D341_31 rfl rfl rfl ?_
      refine im_iconst (q := 33) D341_32 ?_
      refine im_pfI (q := 36) D341_33 (im_fl cn_341 fl_12_409) sf_6952 rfl rfl ti_12_0 (by decide) ?_
      refine im_iconst (q := 37) D341_36 ?_
      exact im_iret (q := 38) D341_37 rfl hP
  · replace hP := hP.2 (Decidable.not_not.mp hc4)
    refine im_iconst (q := 12) D341_11 ?_
    exact im_iret (q := 13) D341_12 rfl hP
set_option maxRecDepth 20000 in
set_option maxHeartbeats 4000000 in
theorem b_begin_0 {g : im_g} {d : Nat} {e : im_E} {M : im_M} {K : im_K} {p1 p2 p3 : Int} (hd : 1 ≤ d) (hP : (im_i32 p1) ∧ im_T g (d - 1) 268 0 [some (vL p1), none, some (vL 0), none, some (vL 15), none] [] e M (im_ri (fun x3 e_ M2 => e = e_ ∧ (im_i32 x3) ∧ ((x3 = 0 → im_T g (d - 1) 268 0 [some (vL p3), none, some (vL 0), none, some (vL 1000000000000000), none] [] e M2 (im_ri (fun x8 e_ M7 => e = e_ ∧ im_T g (d - 1) 264 0 [some (.ref 6952), some (vI 3), some (vI 0), some (vI x8), some (vI 0)] [] e M7 (im_ri (fun x11 e_ M10 => e = e_ ∧ (im_i32 x11) ∧ ((¬ x11 = 0 → im_T g (d - 1) 343 0 [some (.ref 6952), some (vI p1), some (vI p2), some (vL p3), none, none] [] e M10 (im_ri (fun x15 e_ M14 => e = e_ ∧ (im_i32 x15) ∧ ((¬ x15 = 0 → ((¬ x15 = (-100) → ((¬ x15 = 0 → K (.inl (some (vI x15))) e M14) ∧ (x15 = 0 → im_T g (d - 1) 346 0 [some (.ref 6952), some (vI p1), some (vI p2), some (vL p3), none, none, none] [] e M14 (im_r0 (fun  e_ M21 => e = e_ ∧ K (.inl (some (vI x15))) e M21))))) ∧ (x15 = (-100) → K (.inl (some (vI 0))) e (im_u M14 6952 0 3)))) ∧ (x15 = 0 → (im_i32 p2) ∧ im_T g (d - 1) 307 0 [some (.ref 6952), some (vI 3), some (vI 3), some (vL p1), none, some (vL p2), none, some (vL p3), none, some (vI 0), none, none, none, none] [] e M14 (im_ri (fun x24 e_ M23 => e = e_ ∧ (im_i32 x24) ∧ ((¬ x24 = (-100) → ((¬ x24 = 0 → K (.inl (some (vI x24))) e M23) ∧ (x24 = 0 → im_T g (d - 1) 346 0 [some (.ref 6952), some (vI p1), some (vI p2), some (vL p3), none, none, none] [] e M23 (im_r0 (fun  e_ M28 => e = e_ ∧ K (.inl (some (vI x24))) e M28))))) ∧ (x24 = (-100) → K (.inl (some (vI 0))) e (im_u M23 6952 0 3)))))))))) ∧ (x11 = 0 → K (.inl (some (vI 0))) e M10))))))) ∧ (¬ x3 = 0 → (im_i32 p2) ∧ im_T g (d - 1) 268 0 [some (vL p2), none, some (vL 0), none, some (vL 15), none] [] e M2 (im_ri (fun x35 e_ M34 => e = e_ ∧ (im_i32 x35) ∧ ((x35 = 0 → im_T g (d - 1) 268 0 [some (vL p3), none, some (vL 0), none, some (vL 1000000000000000), none] [] e M34 (im_ri (fun x39 e_ M38 => e = e_ ∧ im_T g (d - 1) 264 0 [some (.ref 6952), some (vI 3), some (vI 0), some (vI x39), some (vI 0)] [] e M38 (im_ri (fun x42 e_ M41 => e = e_ ∧ (im_i32 x42) ∧ ((¬ x42 = 0 → im_T g (d - 1) 343 0 [some (.ref 6952), some (vI p1), some (vI p2), some (vL p3), none, none] [] e M41 (im_ri (fun x46 e_ M45 => e = e_ ∧ (im_i32 x46) ∧ ((¬ x46 = 0 → ((¬ x46 = (-100) → ((¬ x46 = 0 → K (.inl (some (vI x46))) e M45) ∧ (x46 = 0 → im_T g (d - 1) 346 0 [some (.ref 6952), some (vI p1), some (vI p2), some (vL p3), none, none, none] [] e M45 (im_r0 (fun  e_ M51 => e = e_ ∧ K (.inl (some (vI x46))) e M51))))) ∧ (x46 = (-100) → K (.inl (some (vI 0))) e (im_u M45 6952 0 3)))) ∧ (x46 = 0 → im_T g (d - 1) 307 0 [some (.ref 6952), some (vI 3), some (vI 3), some (vL p1), none, some (vL p2), none, some (vL p3), none, some (vI 0), none, none, none, none] [] e M45 (im_ri (fun x54 e_ M53 => e = e_ ∧ (im_i32 x54) ∧ ((¬ x54 = (-100) → ((¬ x54 = 0 → K (.inl (some (vI x54))) e M53) ∧ (x54 = 0 → im_T g (d - 1) 346 0 [some (.ref 6952), some (vI p1), some (vI p2), some (vL p3), none, none, none] [] e M53 (im_r0 (fun  e_ M58 => e = e_ ∧ K (.inl (some (vI x54))) e M58))))) ∧ (x54 = (-100) → K (.inl (some (vI 0))) e (im_u M53 6952 0 3)))))))))) ∧ (x42 = 0 → K (.inl (some (vI 0))) e M41))))))) ∧ (¬ x35 = 0 → im_T g (d - 1) 268 0 [some (vL p3), none, some (vL 0), none, some (vL 1000000000000000), none] [] e M34 (im_ri (fun x65 e_ M64 => e = e_ ∧ (0 ≤ p1 ∧ p1 < 16) ∧ (((((M64 6994 p1) = 0 → (0 ≤ p2 ∧ p2 < 16) ∧ ((¬ (M64 6984 p2) = 0 → im_T g (d - 1) 264 0 [some (.ref 6952), some (vI 3), some (vI 1), some (vI x65), some (vI 1)] [] e M64 (im_ri (fun x99 e_ M98 => e = e_ ∧ (im_i32 x99) ∧ ((¬ x99 = 0 → im_T g (d - 1) 343 0 [some (.ref 6952), some (vI p1), some (vI p2), some (vL p3), none, none] [] e M98 (im_ri (fun x103 e_ M102 => e = e_ ∧ (im_i32 x103) ∧ ((¬ x103 = 0 → ((¬ x103 = (-100) → ((¬ x103 = 0 → K (.inl (some (vI x103))) e M102) ∧ (x103 = 0 → im_T g (d - 1) 346 0 [some (.ref 6952), some (vI p1), some (vI p2), some (vL p3), none, none, none] [] e M102 (im_r0 (fun  e_ M108 => e = e_ ∧ K (.inl (some (vI x103))) e M108))))) ∧ (x103 = (-100) → K (.inl (some (vI 0))) e (im_u M102 6952 0 3)))) ∧ (x103 = 0 → im_T g (d - 1) 307 0 [some (.ref 6952), some (vI 3), some (vI 3), some (vL p1), none, some (vL p2), none, some (vL p3), none, some (vI 0), none, none, none, none] [] e M102 (im_ri (fun x111 e_ M110 => e = e_ ∧ (im_i32 x111) ∧ ((¬ x111 = (-100) → ((¬ x111 = 0 → K (.inl (some (vI x111))) e M110) ∧ (x111 = 0 → im_T g (d - 1) 346 0 [some (.ref 6952), some (vI p1), some (vI p2), some (vL p3), none, none, none] [] e M110 (im_r0 (fun  e_ M115 => e = e_ ∧ K (.inl (some (vI x111))) e M115))))) ∧ (x111 = (-100) → K (.inl (some (vI 0))) e (im_u M110 6952 0 3)))))))))) ∧ (x99 = 0 → K (.inl (some (vI 0))) e M98))))))))) ∧ ((((¬ (M64 6994 p1) = 0)) ∨ (((M64 6994 p1) = 0) ∧ ((M64 6984 p2) = 0))) → im_T g (d - 1) 264 0 [some (.ref 6952), some (vI 3), some (vI 1), some (vI x65), some (vI 0)] [] e M64 (im_ri (fun x77 e_ M76 => e = e_ ∧ (im_i32 x77) ∧ ((¬ x77 = 0 → im_T g (d - 1) 343 0 [some (.ref 6952), some (vI p1), some (vI p2), some (vL p3), none, none] [] e M76 (im_ri (fun x81 e_ M80 => e = e_ ∧ (im_i32 x81) ∧ ((¬ x81 = 0 → ((¬ x81 = (-100) → ((¬ x81 = 0 → K (.inl (some (vI x81))) e M80) ∧ (x81 = 0 → im_T g (d - 1) 346 0 [some (.ref 6952), some (vI p1), some (vI p2), some (vL p3), none, none, none] [] e M80 (im_r0 (fun  e_ M86 => e = e_ ∧ K (.inl (some (vI x81))) e M86))))) ∧ (x81 = (-100) → K (.inl (some (vI 0))) e (im_u M80 6952 0 3)))) ∧ (x81 = 0 → im_T g (d - 1) 307 0 [some (.ref 6952), some (vI 3), some (vI 3), some (vL p1), none, some (vL p2), none, some (vL p3), none, some (vI 0), none, none, none, none] [] e M80 (im_ri (fun x89 e_ M88 => e = e_ ∧ (im_i32 x89) ∧ ((¬ x89 = (-100) → ((¬ x89 = 0 → K (.inl (some (vI x89))) e M88) ∧ (x89 = 0 → im_T g (d - 1) 346 0 [some (.ref 6952), some (vI p1), some (vI p2), some (vL p3), none, none, none] [] e M88 (im_r0 (fun  e_ M93 => e = e_ ∧ K (.inl (some (vI x89))) e M93))))) ∧ (x89 = (-100) → K (.inl (some (vI 0))) e (im_u M88 6952 0 3)))))))))) ∧ (x77 = 0 → K (.inl (some (vI 0))) e M76))))))))))))))))) : im_T g d 342 0 [some (.ref 6952), some (vI p1), some (vI p2), some (vL p3), none, none, none] [] e M K := by
  refine im_ld (q := 1) (i := 1) D342_0 rfl rfl rfl ?_
  obtain ⟨hg1, hP⟩ := hP
  refine im_i2l (q := 2) D342_1 hg1 ?_
  refine im_lconst (q := 3) (z := 0) D342_2 rfl ?_
  refine im_ldc2 (q := 6) (n := 15) D342_3 rfl ?_
  refine im_callS (q := 9) (kd := 0) (y := 268) (n := 3) (z := 12) (vs := [vL p1, vL 0, vL 15]) (r := []) (L2 := [some (vL p1), none, some (vL 0), none, some (vL 15), none]) D342_6 rfl (im_cal cn_342 cl_12_428) (Or.inl rfl) rfl rfl rfl rfl rfl hd ⟨rfl, rfl, rfl, trivial⟩ ?_
  refine hP.mono ?_
  rintro _ e122 M2 ⟨x3, rfl, rfl, hP⟩
  refine im_bkS ?_
  obtain ⟨hg4, hP⟩ := hP
  refine im_ifc (q := 12) (t := 28) D342_9 rfl hg4 (fun hc5 => ?_) (fun hc5 => ?_)
  · replace hP := hP.1 hc5
    refine im_iconst (q := 29) D342_28 ?_
    refine im_st1 (q := 31) (i := 5) (L' := [some (.ref 6952), some (vI p1), some (vI p2), some (vL p3), none, some (vI 0), none]) D342_29 (Or.inr rfl) (Nat.le_of_ble_eq_true rfl) rfl ?_
    refine im_ld (q := 32) (i := 0) D342_31 rfl rfl rfl ?_
    refine im_iconst (q := 33) D342_32 ?_
    refine im_ld (q := 35) (i := 5) D342_33 rfl rfl rfl ?_
    refine im_ld (q := 36) (i := 3) D342_35 rfl rfl rfl ?_
    refine im_lconst (q := 37) (z := 0) D342_36 rfl ?_
    refine im_ldc2 (q := 40) (n := 1000000000000000) D342_37 rfl ?_
    refine im_callS (q := 43) (kd := 0) (y := 268) (n := 3) (z := 12) (vs := [vL p3, vL 0, vL 1000000000000000]) (r := [vI 0, vI 3, .ref 6952]) (L2 := [some (vL p3), none, some (vL 0), none, some (vL 1000000000000000), none]) D342_40 rfl (im_cal cn_342 cl_12_428) (Or.inl rfl) rfl rfl rfl rfl rfl hd ⟨rfl, rfl, rfl, trivial⟩ ?_
    refine hP.mono ?_
    rintro _ e33 M7 ⟨x8, rfl, rfl, hP⟩
    refine im_bkS ?_
    refine im_ld (q := 45) (i := 5) D342_43 rfl rfl rfl ?_
    refine im_ifc (q := 48) (t := 70) D342_45 rfl (by decide) (fun _ => ?_) (fun hc => absurd (show (0 : Int) = 0 by decide) hc)
    refine im_iconst (q := 71) D342_70 ?_
    refine im_callV (q := 74) (kd := 1) (y := 264) (n := 4) (ci := 12) (a := 6952) (vs := [.ref 6952, vI 3, vI 0, vI x8, vI 0]) (r := []) (L2 := [some (.ref 6952), some (vI 3), some (vI 0), some (vI x8), some (vI 0)]) D342_71 (im_cal cn_342 cl_12_419) (Or.inl rfl) rfl sf_6952 rfl rfl rfl rfl hd ⟨rfl, rfl, rfl, rfl, rfl, trivial⟩ ?_
    refine hP.mono ?_
    rintro _ e32 M10 ⟨x11, rfl, rfl, hP⟩
    refine im_bkS ?_
    obtain ⟨hg12, hP⟩ := hP
    refine im_ifc (q := 77) (t := 79) D342_74 rfl hg12 (fun hc13 => ?_) (fun hc13 => ?_)
    · replace hP := hP.1 hc13
      refine im_ld (q := 80) (i := 0) D342_79 rfl rfl rfl ?_
      refine im_ld (q := 81) (i := 1) D342_80 rfl rfl rfl ?_
      refine im_ld (q := 82) (i := 2) D342_81 rfl rfl rfl ?_
      refine im_ld (q := 83) (i := 3) D342_82 rfl rfl rfl ?_
      refine im_callV (q := 86) (kd := 1) (y := 343) (n := 3) (ci := 12) (a := 6952) (vs := [.ref 6952, vI p1, vI p2, vL p3]) (r := []) (L2 := [some (.ref 6952), some (vI p1), some (vI p2), some (vL p3), none, none]) D342_83 (im_cal cn_342 cl_12_832) (Or.inl rfl) rfl sf_6952 rfl rfl rfl rfl hd ⟨rfl, rfl, rfl, rfl, trivial⟩ ?_
      refine hP.mono ?_
      rintro _ e31 M14 ⟨x15, rfl, rfl, hP⟩
      refine im_bkS ?_
      refine im_st1 (q := 88) (i := 6) (L' := [some (.ref 6952), some (vI p1), some (vI p2), some (vL p3), none, some (vI 0), some (vI x15)]) D342_86 (Or.inr rfl) (Nat.le_of_ble_eq_true rfl) rfl ?_
      refine im_ld (q := 90) (i := 6) D342_88 rfl rfl rfl ?_
      obtain ⟨hg16, hP⟩ := hP
      refine im_ifc (q := 93) (t := 107) D342_90 rfl hg16 (fun hc17 => ?_) (fun hc17 => ?_)
      · replace hP := hP.1 hc17
        refine im_ld (q := 109) (i := 6) D342_107 rfl rfl rfl ?_
        refine im_bipush (q := 111) D342_109 rfl ?_
        refine im_icmp (q := 114) (t := 121) D342_111 rfl hg16 (by decide) (fun hc19 => ?_) (fun hc19 => ?_)
        · replace hP := hP.1 hc19
          refine im_ld (q := 123) (i := 6) D342_121 rfl rfl rfl ?_
          refine im_ifc (q := 126) (t := 133) D342_123 rfl hg16 (fun hc20 => ?_) (fun hc20 => ?_)
          · replace hP := hP.1 hc20
            refine im_ld (q := 135) (i := 6) D342_133 rfl rfl rfl ?_
            exact im_iret (q := 136) D342_135 rfl hP
          · replace hP := hP.2 (Decidable.not_not.mp hc20)
            refine im_ld (q := 127) (i := 0) D342_126 rfl rfl rfl ?_
            refine im_ld (q := 128) (i := 1) D342_127 rfl rfl rfl ?_
            refine im_ld (q := 129) (i := 2) D342_128 rfl rfl rfl ?_
            refine im_ld (q := 130) (i := 3) D342_129 rfl rfl rfl ?_
            refine im_callV (q := 133) (kd := 1) (y := 346) (n := 3) (ci := 12) (a := 6952) (vs := [.ref 6952, vI p1, vI p2, vL p3]) (r := []) (L2 := [some (.ref 6952), some (vI p1), some (vI p2), some (vL p3), none, none, none]) D342_130 (im_cal cn_342 cl_12_836) (Or.inl rfl) rfl sf_6952 rfl rfl rfl rfl hd ⟨rfl, rfl, rfl, rfl, trivial⟩ ?_
            refine hP.mono ?_
            rintro _ e22 M21 ⟨rfl, rfl, hP⟩
            refine im_bkN ?_
            refine im_ld (q := 135) (i := 6) D342_133 rfl rfl rfl ?_
            exact im_iret (q := 136) D342_135 rfl hP
        · replace hP := hP.2 (Decidable.not_not.mp hc19)
          refine im_ld (q := 115) (i := 0) D342_114 rfl rfl rfl ?_
          refine im_iconst (q := 116) D342_115 ?_
          refine im_pfI (q := 119) D342_116 (im_fl cn_342 fl_12_409) sf_6952 rfl rfl ti_12_0 (by decide) ?_
          refine im_iconst (q := 120) D342_119 ?_
          exact im_iret (q := 121) D342_120 rfl hP
      · replace hP := hP.2 (Decidable.not_not.mp hc17)
        refine im_ld (q := 94) (i := 0) D342_93 rfl rfl rfl ?_
        refine im_iconst (q := 95) D342_94 ?_
        refine im_iconst (q := 96) D342_95 ?_
        refine im_ld (q := 97) (i := 1) D342_96 rfl rfl rfl ?_
        refine im_i2l (q := 98) D342_97 hg1 ?_
        refine im_ld (q := 99) (i := 2) D342_98 rfl rfl rfl ?_
        obtain ⟨hg18, hP⟩ := hP
        refine im_i2l (q := 100) D342_99 hg18 ?_
        refine im_ld (q := 101) (i := 3) D342_100 rfl rfl rfl ?_
        refine im_iconst (q := 102) D342_101 ?_
        refine im_callV (q := 105) (kd := 1) (y := 307) (n := 6) (ci := 12) (a := 6952) (vs := [.ref 6952, vI 3, vI 3, vL p1, vL p2, vL p3, vI 0]) (r := []) (L2 := [some (.ref 6952), some (vI 3), some (vI 3), some (vL p1), none, some (vL p2), none, some (vL p3), none, some (vI 0), none, none, none, none]) D342_102 (im_cal cn_342 cl_12_740) (Or.inl rfl) rfl sf_6952 rfl rfl rfl rfl hd ⟨rfl, rfl, rfl, rfl, rfl, rfl, rfl, trivial⟩ ?_
        refine hP.mono ?_
        rintro _ e30 M23 ⟨x24, rfl, rfl, hP⟩
        refine im_bkS ?_
        refine im_st1 (q := 107) (i := 6) (L' := [some (.ref 6952), some (vI p1), some (vI p2), some (vL p3), none, some (vI 0), some (vI x24)]) D342_105 (Or.inr rfl) (Nat.le_of_ble_eq_true rfl) rfl ?_
        refine im_ld (q := 109) (i := 6) D342_107 rfl rfl rfl ?_
        refine im_bipush (q := 111) D342_109 rfl ?_
        obtain ⟨hg25, hP⟩ := hP
        refine im_icmp (q := 114) (t := 121) D342_111 rfl hg25 (by decide) (fun hc26 => ?_) (fun hc26 => ?_)
        · replace hP := hP.1 hc26
          refine im_ld (q := 123) (i := 6) D342_121 rfl rfl rfl ?_
          refine im_ifc (q := 126) (t := 133) D342_123 rfl hg25 (fun hc27 => ?_) (fun hc27 => ?_)
          · replace hP := hP.1 hc27
            refine im_ld (q := 135) (i := 6) D342_133 rfl rfl rfl ?_
            exact im_iret (q := 136) D342_135 rfl hP
          · replace hP := hP.2 (Decidable.not_not.mp hc27)
            refine im_ld (q := 127) (i := 0) D342_126 rfl rfl rfl ?_
            refine im_ld (q := 128) (i := 1) D342_127 rfl rfl rfl ?_
            refine im_ld (q := 129) (i := 2) D342_128 rfl rfl rfl ?_
            refine im_ld (q := 130) (i := 3) D342_129 rfl rfl rfl ?_
            refine im_callV (q := 133) (kd := 1) (y := 346) (n := 3) (ci := 12) (a := 6952) (vs := [.ref 6952, vI p1, vI p2, vL p3]) (r := []) (L2 := [some (.ref 6952), some (vI p1), some (vI p2), some (vL p3), none, none, none]) D342_130 (im_cal cn_342 cl_12_836) (Or.inl rfl) rfl sf_6952 rfl rfl rfl rfl hd ⟨rfl, rfl, rfl, rfl, trivial⟩ ?_
            refine hP.mono ?_
            rintro _ e29 M28 ⟨rfl, rfl, hP⟩
            refine im_bkN ?_
            refine im_ld (q := 135) (i := 6) D342_133 rfl rfl rfl ?_
            exact im_iret (q := 136) D342_135 rfl hP
        · replace hP := hP.2 (Decidable.not_not.mp hc26)
          refine im_ld (q := 115) (i := 0) D342_114 rfl rfl rfl ?_
          refine im_iconst (q := 116) D342_115 ?_
          refine im_pfI (q := 119) D342_116 (im_fl cn_342 fl_12_409) sf_6952 rfl rfl ti_12_0 (by decide) ?_
          refine im_iconst (q := 120) D342_119 ?_
          exact im_iret (q := 121) D342_120 rfl hP
    · replace hP := hP.2 (Decidable.not_not.mp hc13)
      refine im_iconst (q := 78) D342_77 ?_
      exact im_iret (q := 79) D342_78 rfl hP
  · replace hP := hP.2 hc5
    refine im_ld (q := 13) (i := 2) D342_12 rfl rfl rfl ?_
    obtain ⟨hg6, hP⟩ := hP
    refine im_i2l (q := 14) D342_13 hg6 ?_
    refine im_lconst (q := 15) (z := 0) D342_14 rfl ?_
    refine im_ldc2 (q := 18) (n := 15) D342_15 rfl ?_
    refine im_callS (q := 21) (kd := 0) (y := 268) (n := 3) (z := 12) (vs := [vL p2, vL 0, vL 15]) (r := []) (L2 := [some (vL p2), none, some (vL 0), none, some (vL 15), none]) D342_18 rfl (im_cal cn_342 cl_12_428) (Or.inl rfl) rfl rfl rfl rfl rfl hd ⟨rfl, rfl, rfl, trivial⟩ ?_
    refine hP.mono ?_
    rintro _ e121 M34 ⟨x35, rfl, rfl, hP⟩
    refine im_bkS ?_
    obtain ⟨hg36, hP⟩ := hP
    refine im_ifc (q := 24) (t := 28) D342_21 rfl hg36 (fun hc37 => ?_) (fun hc37 => ?_)
    · replace hP := hP.1 hc37
      refine im_iconst (q := 29) D342_28 ?_
      refine im_st1 (q := 31) (i := 5) (L' := [some (.ref 6952), some (vI p1), some (vI p2), some (vL p3), none, some (vI 0), none]) D342_29 (Or.inr rfl) (Nat.le_of_ble_eq_true rfl) rfl ?_
      refine im_ld (q := 32) (i := 0) D342_31 rfl rfl rfl ?_
      refine im_iconst (q := 33) D342_32 ?_
      refine im_ld (q := 35) (i := 5) D342_33 rfl rfl rfl ?_
      refine im_ld (q := 36) (i := 3) D342_35 rfl rfl rfl ?_
      refine im_lconst (q := 37) (z := 0) D342_36 rfl ?_
      refine im_ldc2 (q := 40) (n := 1000000000000000) D342_37 rfl ?_
      refine im_callS (q := 43) (kd := 0) (y := 268) (n := 3) (z := 12) (vs := [vL p3, vL 0, vL 1000000000000000]) (r := [vI 0, vI 3, .ref 6952]) (L2 := [some (vL p3), none, some (vL 0), none, some (vL 1000000000000000), none]) D342_40 rfl (im_cal cn_342 cl_12_428) (Or.inl rfl) rfl rfl rfl rfl rfl hd ⟨rfl, rfl, rfl, trivial⟩ ?_
      refine hP.mono ?_
      rintro _ e63 M38 ⟨x39, rfl, rfl, hP⟩
      refine im_bkS ?_
      refine im_ld (q := 45) (i := 5) D342_43 rfl rfl rfl ?_
      refine im_ifc (q := 48) (t := 70) D342_45 rfl (by decide) (fun _ => ?_) (fun hc => absurd (show (0 : Int) = 0 by decide) hc)
      refine im_iconst (q := 71) D342_70 ?_
      refine im_callV (q := 74) (kd := 1) (y := 264) (n := 4) (ci := 12) (a := 6952) (vs := [.ref 6952, vI 3, vI 0, vI x39, vI 0]) (r := []) (L2 := [some (.ref 6952), some (vI 3), some (vI 0), some (vI x39), some (vI 0)]) D342_71 (im_cal cn_342 cl_12_419) (Or.inl rfl) rfl sf_6952 rfl rfl rfl rfl hd ⟨rfl, rfl, rfl, rfl, rfl, trivial⟩ ?_
      refine hP.mono ?_
      rintro _ e62 M41 ⟨x42, rfl, rfl, hP⟩
      refine im_bkS ?_
      obtain ⟨hg43, hP⟩ := hP
      refine im_ifc (q := 77) (t := 79) D342_74 rfl hg43 (fun hc44 => ?_) (fun hc44 => ?_)
      · replace hP := hP.1 hc44
        refine im_ld (q := 80) (i := 0) D342_79 rfl rfl rfl ?_
        refine im_ld (q := 81) (i := 1) D342_80 rfl rfl rfl ?_
        refine im_ld (q := 82) (i := 2) D342_81 rfl rfl rfl ?_
        refine im_ld (q := 83) (i := 3) D342_82 rfl rfl rfl ?_
        refine im_callV (q := 86) (kd := 1) (y := 343) (n := 3) (ci := 12) (a := 6952) (vs := [.ref 6952, vI p1, vI p2, vL p3]) (r := []) (L2 := [some (.ref 6952), some (vI p1), some (vI p2), some (vL p3), none, none]) D342_83 (im_cal cn_342 cl_12_832) (Or.inl rfl) rfl sf_6952 rfl rfl rfl rfl hd ⟨rfl, rfl, rfl, rfl, trivial⟩ ?_
        refine hP.mono ?_
        rintro _ e61 M45 ⟨x46, rfl, rfl, hP⟩
        refine im_bkS ?_
        refine im_st1 (q := 88) (i := 6) (L' := [some (.ref 6952), some (vI p1), some (vI p2), some (vL p3), none, some (vI 0), some (vI x46)]) D342_86 (Or.inr rfl) (Nat.le_of_ble_eq_true rfl) rfl ?_
        refine im_ld (q := 90) (i := 6) D342_88 rfl rfl rfl ?_
        obtain ⟨hg47, hP⟩ := hP
        refine im_ifc (q := 93) (t := 107) D342_90 rfl hg47 (fun hc48 => ?_) (fun hc48 => ?_)
        · replace hP := hP.1 hc48
          refine im_ld (q := 109) (i := 6) D342_107 rfl rfl rfl ?_
          refine im_bipush (q := 111) D342_109 rfl ?_
          refine im_icmp (q := 114) (t := 121) D342_111 rfl hg47 (by decide) (fun hc49 => ?_) (fun hc49 => ?_)
          · replace hP := hP.1 hc49
            refine im_ld (q := 123) (i := 6) D342_121 rfl rfl rfl ?_
            refine im_ifc (q := 126) (t := 133) D342_123 rfl hg47 (fun hc50 => ?_) (fun hc50 => ?_)
            · replace hP := hP.1 hc50
              refine im_ld (q := 135) (i := 6) D342_133 rfl rfl rfl ?_
              exact im_iret (q := 136) D342_135 rfl hP
            · replace hP := hP.2 (Decidable.not_not.mp hc50)
              refine im_ld (q := 127) (i := 0) D342_126 rfl rfl rfl ?_
              refine im_ld (q := 128) (i := 1) D342_127 rfl rfl rfl ?_
              refine im_ld (q := 129) (i := 2) D342_128 rfl rfl rfl ?_
              refine im_ld (q := 130) (i := 3) D342_129 rfl rfl rfl ?_
              refine im_callV (q := 133) (kd := 1) (y := 346) (n := 3) (ci := 12) (a := 6952) (vs := [.ref 6952, vI p1, vI p2, vL p3]) (r := []) (L2 := [some (.ref 6952), some (vI p1), some (vI p2), some (vL p3), none, none, none]) D342_130 (im_cal cn_342 cl_12_836) (Or.inl rfl) rfl sf_6952 rfl rfl rfl rfl hd ⟨rfl, rfl, rfl, rfl, trivial⟩ ?_
              refine hP.mono ?_
              rintro _ e52 M51 ⟨rfl, rfl, hP⟩
              refine im_bkN ?_
              refine im_ld (q := 135) (i := 6) D342_133 rfl rfl rfl ?_
              exact im_iret (q := 136) D342_135 rfl hP
          · replace hP := hP.2 (Decidable.not_not.mp hc49)
            refine im_ld (q := 115) (i := 0) D342_114 rfl rfl rfl ?_
            refine im_iconst (q := 116) D342_115 ?_
            refine im_pfI (q := 119) D342_116 (im_fl cn_342 fl_12_409) sf_6952 rfl rfl ti_12_0 (by decide) ?_
            refine im_iconst (q := 120) D342_119 ?_
            exact im_iret (q := 121) D342_120 rfl hP
        · replace hP := hP.2 (Decidable.not_not.mp hc48)
          refine im_ld (q := 94) (i := 0) D342_93 rfl rfl rfl ?_
          refine im_iconst (q := 95) D342_94 ?_
          refine im_iconst (q := 96) D342_95 ?_
          refine im_ld (q := 97) (i := 1) D342_96 rfl rfl rfl ?_
          refine im_i2l (q := 98) D342_97 hg1 ?_
          refine im_ld (q := 99) (i := 2) D342_98 rfl rfl rfl ?_
          refine im_i2l (q := 100) D342_99 hg6 ?_
          refine im_ld (q := 101) (i := 3) D342_100 rfl rfl rfl ?_
          refine im_iconst (q := 102) D342_101 ?_
          refine im_callV (q := 105) (kd := 1) (y := 307) (n := 6) (ci := 12) (a := 6952) (vs := [.ref 6952, vI 3, vI 3, vL p1, vL p2, vL p3, vI 0]) (r := []) (L2 := [some (.ref 6952), some (vI 3), some (vI 3), some (vL p1), none, some (vL p2), none, some (vL p3), none, some (vI 0), none, none, none, none]) D342_102 (im_cal cn_342 cl_12_740) (Or.inl rfl) rfl sf_6952 rfl rfl rfl rfl hd ⟨rfl, rfl, rfl, rfl, rfl, rfl, rfl, trivial⟩ ?_
          refine hP.mono ?_
          rintro _ e60 M53 ⟨x54, rfl, rfl, hP⟩
          refine im_bkS ?_
          refine im_st1 (q := 107) (i := 6) (L' := [some (.ref 6952), some (vI p1), some (vI p2), some (vL p3), none, some (vI 0), some (vI x54)]) D342_105 (Or.inr rfl) (Nat.le_of_ble_eq_true rfl) rfl ?_
          refine im_ld (q := 109) (i := 6) D342_107 rfl rfl rfl ?_
          refine im_bipush (q := 111) D342_109 rfl ?_
          obtain ⟨hg55, hP⟩ := hP
          refine im_icmp (q := 114) (t := 121) D342_111 rfl hg55 (by decide) (fun hc56 => ?_) (fun hc56 => ?_)
          · replace hP := hP.1 hc56
            refine im_ld (q := 123) (i := 6) D342_121 rfl rfl rfl ?_
            refine im_ifc (q := 126) (t := 133) D342_123 rfl hg55 (fun hc57 => ?_) (fun hc57 => ?_)
            · replace hP := hP.1 hc57
              refine im_ld (q := 135) (i := 6) D342_133 rfl rfl rfl ?_
              exact im_iret (q := 136) D342_135 rfl hP
            · replace hP := hP.2 (Decidable.not_not.mp hc57)
              refine im_ld (q := 127) (i := 0) D342_126 rfl rfl rfl ?_
              refine im_ld (q := 128) (i := 1) D342_127 rfl rfl rfl ?_
              refine im_ld (q := 129) (i := 2) D342_128 rfl rfl rfl ?_
              refine im_ld (q := 130) (i := 3) D342_129 rfl rfl rfl ?_
              refine im_callV (q := 133) (kd := 1) (y := 346) (n := 3) (ci := 12) (a := 6952) (vs := [.ref 6952, vI p1, vI p2, vL p3]) (r := []) (L2 := [some (.ref 6952), some (vI p1), some (vI p2), some (vL p3), none, none, none]) D342_130 (im_cal cn_342 cl_12_836) (Or.inl rfl) rfl sf_6952 rfl rfl rfl rfl hd ⟨rfl, rfl, rfl, rfl, trivial⟩ ?_
              refine hP.mono ?_
              rintro _ e59 M58 ⟨rfl, rfl, hP⟩
              refine im_bkN ?_
              refine im_ld (q := 135) (i := 6) D342_133 rfl rfl rfl ?_
              exact im_iret (q := 136) D342_135 rfl hP
          · replace hP := hP.2 (Decidable.not_not.mp hc56)
            refine im_ld (q := 115) (i := 0) D342_114 rfl rfl rfl ?_
            refine im_iconst (q := 116) D342_115 ?_
            refine im_pfI (q := 119) D342_116 (im_fl cn_342 fl_12_409) sf_6952 rfl rfl ti_12_0 (by decide) ?_
            refine im_iconst (q := 120) D342_119 ?_
            exact im_iret (q := 121) D342_120 rfl hP
      · replace hP := hP.2 (Decidable.not_not.mp hc44)
        refine im_iconst (q := 78) D342_77 ?_
        exact im_iret (q := 79) D342_78 rfl hP
    · replace hP := hP.2 hc37
      refine im_iconst (q := 25) D342_24 ?_
      refine im_goto (q := 28) (t := 29) D342_25 rfl ?_
      refine im_st1 (q := 31) (i := 5) (L' := [some (.ref 6952), some (vI p1), some (vI p2), some (vL p3), none, some (vI 1), none]) D342_29 (Or.inr rfl) (Nat.le_of_ble_eq_true rfl) rfl ?_
      refine im_ld (q := 32) (i := 0) D342_31 rfl rfl rfl ?_
      refine im_iconst (q := 33) D342_32 ?_
      refine im_ld (q := 35) (i := 5) D342_33 rfl rfl rfl ?_
      refine im_ld (q := 36) (i := 3) D342_35 rfl rfl rfl ?_
      refine im_lconst (q := 37) (z := 0) D342_36 rfl ?_
      refine im_ldc2 (q := 40) (n := 1000000000000000) D342_37 rfl ?_
      refine im_callS (q := 43) (kd := 0) (y := 268) (n := 3) (z := 12) (vs := [vL p3, vL 0, vL 1000000000000000]) (r := [vI 1, vI 3, .ref 6952]) (L2 := [some (vL p3), none, some (vL 0), none, some (vL 1000000000000000), none]) D342_40 rfl (im_cal cn_342 cl_12_428) (Or.inl rfl) rfl rfl rfl rfl rfl hd ⟨rfl, rfl, rfl, trivial⟩ ?_
      refine hP.mono ?_
      rintro _ e120 M64 ⟨x65, rfl, rfl, hP⟩
      refine im_bkS ?_
      refine im_ld (q := 45) (i := 5) D342_43 rfl rfl rfl ?_
      refine im_ifc (q := 48) (t := 70) D342_45 rfl (by decide) (fun hc => absurd hc (show ¬ ((1 : Int) = 0) by decide)) (fun _ => ?_)
      refine im_ld (q := 49) (i := 0) D342_48 rfl rfl rfl ?_
      refine im_gfR (q := 52) (b := 6994) D342_49 (im_fl cn_342 fl_12_136) sf_6952 rfl rfl tR_12_66 rf_6952_66 ?_
      refine im_ld (q := 53) (i := 1) D342_52 rfl rfl rfl ?_
      obtain ⟨hg67, hP⟩ := hP
      refine im_rng (j := p1) sf_6994 hg67.1 hg67.2 (fun hr68 => ?_)
      refine im_bald (q := 54) D342_53 sf_6994 (Or.inr rfl) hg67.1 hg67.2 (by decide) rfl ?_
      obtain ⟨hP, hJ73⟩ := hP
      have kJ74 : (((¬ (M64 6994 p1) = 0)) ∨ (((M64 6994 p1) = 0) ∧ ((M64 6984 p2) = 0))) → im_T g d 342 70 [some (.ref 6952), some (vI p1), some (vI p2), some (vL p3), none, none, none] [vI x65, vI 1, vI 3, .ref 6952] e M64 K := by
        intro  hx75
        have hP := hJ73  hx75
        refine im_iconst (q := 71) D342_70 ?_
        refine im_callV (q := 74) (kd := 1) (y := 264) (n := 4) (ci := 12) (a := 6952) (vs := [.ref 6952, vI 3, vI 1, vI x65, vI 0]) (r := []) (L2 := [some (.ref 6952), some (vI 3), some (vI 1), some (vI x65), some (vI 0)]) D342_71 (im_cal cn_342 cl_12_419) (Or.inl rfl) rfl sf_6952 rfl rfl rfl rfl hd ⟨rfl, rfl, rfl, rfl, rfl, trivial⟩ ?_
        refine hP.mono ?_
        rintro _ e97 M76 ⟨x77, rfl, rfl, hP⟩
        refine im_bkS ?_
        obtain ⟨hg78, hP⟩ := hP
        refine im_ifc (q := 77) (t := 79) D342_74 rfl hg78 (fun hc79 => ?_) (fun hc79 => ?_)
        · replace hP := hP.1 hc79
          refine im_ld (q := 80) (i := 0) D342_79 rfl rfl rfl ?_
          refine im_ld (q := 81) (i := 1) D342_80 rfl rfl rfl ?_
          refine im_ld (q := 82) (i := 2) D342_81 rfl rfl rfl ?_
          refine im_ld (q := 83) (i := 3) D342_82 rfl rfl rfl ?_
          refine im_callV (q := 86) (kd := 1) (y := 343) (n := 3) (ci := 12) (a := 6952) (vs := [.ref 6952, vI p1, vI p2, vL p3]) (r := []) (L2 := [some (.ref 6952), some (vI p1), some (vI p2), some (vL p3), none, none]) D342_83 (im_cal cn_342 cl_12_832) (Or.inl rfl) rfl sf_6952 rfl rfl rfl rfl hd ⟨rfl, rfl, rfl, rfl, trivial⟩ ?_
          refine hP.mono ?_
          rintro _ e96 M80 ⟨x81, rfl, rfl, hP⟩
          refine im_bkS ?_
          refine im_st1 (q := 88) (i := 6) (L' := [some (.ref 6952), some (vI p1), some (vI p2), some (vL p3), none, none, some (vI x81)]) D342_86 (Or.inr rfl) (Nat.le_of_ble_eq_true rfl) rfl ?_
          refine im_ld (q := 90) (i := 6) D342_88 rfl rfl rfl ?_
          obtain ⟨hg82, hP⟩ := hP
          refine im_ifc (q := 93) (t := 107) D342_90 rfl hg82 (fun hc83 => ?_) (fun hc83 => ?_)
          · replace hP := hP.1 hc83
            refine im_ld (q := 109) (i := 6) D342_107 rfl rfl rfl ?_
            refine im_bipush (q := 111) D342_109 rfl ?_
            refine im_icmp (q := 114) (t := 121) D342_111 rfl hg82 (by decide) (fun hc84 => ?_) (fun hc84 => ?_)
            · replace hP := hP.1 hc84
              refine im_ld (q := 123) (i := 6) D342_121 rfl rfl rfl ?_
              refine im_ifc (q := 126) (t := 133) D342_123 rfl hg82 (fun hc85 => ?_) (fun hc85 => ?_)
              · replace hP := hP.1 hc85
                refine im_ld (q := 135) (i := 6) D342_133 rfl rfl rfl ?_
                exact im_iret (q := 136) D342_135 rfl hP
              · replace hP := hP.2 (Decidable.not_not.mp hc85)
                refine im_ld (q := 127) (i := 0) D342_126 rfl rfl rfl ?_
                refine im_ld (q := 128) (i := 1) D342_127 rfl rfl rfl ?_
                refine im_ld (q := 129) (i := 2) D342_128 rfl rfl rfl ?_
                refine im_ld (q := 130) (i := 3) D342_129 rfl rfl rfl ?_
                refine im_callV (q := 133) (kd := 1) (y := 346) (n := 3) (ci := 12) (a := 6952) (vs := [.ref 6952, vI p1, vI p2, vL p3]) (r := []) (L2 := [some (.ref 6952), some (vI p1), some (vI p2), some (vL p3), none, none, none]) D342_130 (im_cal cn_342 cl_12_836) (Or.inl rfl) rfl sf_6952 rfl rfl rfl rfl hd ⟨rfl, rfl, rfl, rfl, trivial⟩ ?_
                refine hP.mono ?_
                rintro _ e87 M86 ⟨rfl, rfl, hP⟩
                refine im_bkN ?_
                refine im_ld (q := 135) (i := 6) D342_133 rfl rfl rfl ?_
                exact im_iret (q := 136) D342_135 rfl hP
            · replace hP := hP.2 (Decidable.not_not.mp hc84)
              refine im_ld (q := 115) (i := 0) D342_114 rfl rfl rfl ?_
              refine im_iconst (q := 116) D342_115 ?_
              refine im_pfI (q := 119) D342_116 (im_fl cn_342 fl_12_409) sf_6952 rfl rfl ti_12_0 (by decide) ?_
              refine im_iconst (q := 120) D342_119 ?_
              exact im_iret (q := 121) D342_120 rfl hP
          · replace hP := hP.2 (Decidable.not_not.mp hc83)
            refine im_ld (q := 94) (i := 0) D342_93 rfl rfl rfl ?_
            refine im_iconst (q := 95) D342_94 ?_
            refine im_iconst (q := 96) D342_95 ?_
            refine im_ld (q := 97) (i := 1) D342_96 rfl rfl rfl ?_
            refine im_i2l (q := 98) D342_97 hg1 ?_
            refine im_ld (q := 99) (i := 2) D342_98 rfl rfl rfl ?_
            refine im_i2l (q := 100) D342_99 hg6 ?_
            refine im_ld (q := 101) (i := 3) D342_100 rfl rfl rfl ?_
            refine im_iconst (q := 102) D342_101 ?_
            refine im_callV (q := 105) (kd := 1) (y := 307) (n := 6) (ci := 12) (a := 6952) (vs := [.ref 6952, vI 3, vI 3, vL p1, vL p2, vL p3, vI 0]) (r := []) (L2 := [some (.ref 6952), some (vI 3), some (vI 3), some (vL p1), none, some (vL p2), none, some (vL p3), none, some (vI 0), none, none, none, none]) D342_102 (im_cal cn_342 cl_12_740) (Or.inl rfl) rfl sf_6952 rfl rfl rfl rfl hd ⟨rfl, rfl, rfl, rfl, rfl, rfl, rfl, trivial⟩ ?_
            refine hP.mono ?_
            rintro _ e95 M88 ⟨x89, rfl, rfl, hP⟩
            refine im_bkS ?_
            refine im_st1 (q := 107) (i := 6) (L' := [some (.ref 6952), some (vI p1), some (vI p2), some (vL p3), none, none, some (vI x89)]) D342_105 (Or.inr rfl) (Nat.le_of_ble_eq_true rfl) rfl ?_
            refine im_ld (q := 109) (i := 6) D342_107 rfl rfl rfl ?_
            refine im_bipush (q := 111) D342_109 rfl ?_
            obtain ⟨hg90, hP⟩ := hP
            refine im_icmp (q := 114) (t := 121) D342_111 rfl hg90 (by decide) (fun hc91 => ?_) (fun hc91 => ?_)
            · replace hP := hP.1 hc91
              refine im_ld (q := 123) (i := 6) D342_121 rfl rfl rfl ?_
              refine im_ifc (q := 126) (t := 133) D342_123 rfl hg90 (fun hc92 => ?_) (fun hc92 => ?_)
              · replace hP := hP.1 hc92
                refine im_ld (q := 135) (i := 6) D342_133 rfl rfl rfl ?_
                exact im_iret (q := 136) D342_135 rfl hP
              · replace hP := hP.2 (Decidable.not_not.mp hc92)
                refine im_ld (q := 127) (i := 0) D342_126 rfl rfl rfl ?_
                refine im_ld (q := 128) (i := 1) D342_127 rfl rfl rfl ?_
                refine im_ld (q := 129) (i := 2) D342_128 rfl rfl rfl ?_
                refine im_ld (q := 130) (i := 3) D342_129 rfl rfl rfl ?_
                refine im_callV (q := 133) (kd := 1) (y := 346) (n := 3) (ci := 12) (a := 6952) (vs := [.ref 6952, vI p1, vI p2, vL p3]) (r := []) (L2 := [some (.ref 6952), some (vI p1), some (vI p2), some (vL p3), none, none, none]) D342_130 (im_cal cn_342 cl_12_836) (Or.inl rfl) rfl sf_6952 rfl rfl rfl rfl hd ⟨rfl, rfl, rfl, rfl, trivial⟩ ?_
                refine hP.mono ?_
                rintro _ e94 M93 ⟨rfl, rfl, hP⟩
                refine im_bkN ?_
                refine im_ld (q := 135) (i := 6) D342_133 rfl rfl rfl ?_
                exact im_iret (q := 136) D342_135 rfl hP
            · replace hP := hP.2 (Decidable.not_not.mp hc91)
              refine im_ld (q := 115) (i := 0) D342_114 rfl rfl rfl ?_
              refine im_iconst (q := 116) D342_115 ?_
              refine im_pfI (q := 119) D342_116 (im_fl cn_342 fl_12_409) sf_6952 rfl rfl ti_12_0 (by decide) ?_
              refine im_iconst (q := 120) D342_119 ?_
              exact im_iret (q := 121) D342_120 rfl hP
        · replace hP := hP.2 (Decidable.not_not.mp hc79)
          refine im_iconst (q := 78) D342_77 ?_
          exact im_iret (q := 79) D342_78 rfl hP
      refine im_ifc (q := 57) (t := 70) D342_54 rfl (im_z32 hr68) (fun hc69 => ?_) (fun hc69 => ?_)
      · exact (kJ74  (Or.inl hc69)).wk ⟨rfl, rfl, rfl, rfl, trivial⟩
      · replace hP := hP (Decidable.not_not.mp hc69)
        refine im_ld (q := 58) (i := 0) D342_57 rfl rfl rfl ?_
        refine im_gfR (q := 61) (b := 6984) D342_58 (im_fl cn_342 fl_12_106) sf_6952 rfl rfl tR_12_52 rf_6952_52 ?_
        refine im_ld (q := 62) (i := 2) D342_61 rfl rfl rfl ?_
        obtain ⟨hg70, hP⟩ := hP
        refine im_rng (j := p2) sf_6984 hg70.1 hg70.2 (fun hr71 => ?_)
        refine im_bald (q := 63) D342_62 sf_6984 (Or.inr rfl) hg70.1 hg70.2 (by decide) rfl ?_
        refine im_ifc (q := 66) (t := 70) D342_63 rfl (im_z32 hr71) (fun hc72 => ?_) (fun hc72 => ?_)
        · exact (kJ74  (Or.inr ⟨(Decidable.not_not.mp hc69), hc72⟩)).wk ⟨rfl, rfl, rfl, rfl, trivial⟩
        · replace hP := hP hc72
          refine im_iconst (q := 67) D342_66 ?_
          refine im_goto (q := 70) (t := 71) D342_67 rfl ?_
          refine im_callV (q := 74) (kd := 1) (y := 264) (n := 4) (ci := 12) (a := 6952) (vs := [.ref 6952, vI 3, vI 1, vI x65, vI 1]) (r := []) (L2 := [some (.ref 6952), some (vI 3), some (vI 1), some (vI x65), some (vI 1)]) D342_71 (im_cal cn_342 cl_12_419) (Or.inl rfl) rfl sf_6952 rfl rfl rfl rfl hd ⟨rfl, rfl, rfl, rfl, rfl, trivial⟩ ?_
          refine hP.mono ?_
          rintro _ e119 M98 ⟨x99, rfl, rfl, hP⟩
          refine im_bkS ?_
          obtain ⟨hg100, hP⟩ := hP
          refine im_ifc (q := 77) (t := 79) D342_74 rfl hg100 (fun hc101 => ?_) (fun hc101 => ?_)
          · replace hP := hP.1 hc101
            refine im_ld (q := 80) (i := 0) D342_79 rfl rfl rfl ?_
            refine im_ld (q := 81) (i := 1) D342_80 rfl rfl rfl ?_
            refine im_ld (q := 82) (i := 2) D342_81 rfl rfl rfl ?_
            refine im_ld (q := 83) (i := 3) D342_82 rfl rfl rfl ?_
            refine im_callV (q := 86) (kd := 1) (y := 343) (n := 3) (ci := 12) (a := 6952) (vs := [.ref 6952, vI p1, vI p2, vL p3]) (r := []) (L2 := [some (.ref 6952), some (vI p1), some (vI p2), some (vL p3), none, none]) D342_83 (im_cal cn_342 cl_12_832) (Or.inl rfl) rfl sf_6952 rfl rfl rfl rfl hd ⟨rfl, rfl, rfl, rfl, trivial⟩ ?_
            refine hP.mono ?_
            rintro _ e118 M102 ⟨x103, rfl, rfl, hP⟩
            refine im_bkS ?_
            refine im_st1 (q := 88) (i := 6) (L' := [some (.ref 6952), some (vI p1), some (vI p2), some (vL p3), none, some (vI 1), some (vI x103)]) D342_86 (Or.inr rfl) (Nat.le_of_ble_eq_true rfl) rfl ?_
            refine im_ld (q := 90) (i := 6) D342_88 rfl rfl rfl ?_
            obtain ⟨hg104, hP⟩ := hP
            refine im_ifc (q := 93) (t := 107) D342_90 rfl hg104 (fun hc105 => ?_) (fun hc105 => ?_)
            · replace hP := hP.1 hc105
              refine im_ld (q := 109) (i := 6) D342_107 rfl rfl rfl ?_
              refine im_bipush (q := 111) D342_109 rfl ?_
              refine im_icmp (q := 114) (t := 121) D342_111 rfl hg104 (by decide) (fun hc106 => ?_) (fun hc106 => ?_)
              · replace hP := hP.1 hc106
                refine im_ld (q := 123) (i := 6) D342_121 rfl rfl rfl ?_
                refine im_ifc (q := 126) (t := 133) D342_123 rfl hg104 (fun hc107 => ?_) (fun hc107 => ?_)
                · replace hP := hP.1 hc107
                  refine im_ld (q := 135) (i := 6) D342_133 rfl rfl rfl ?_
                  exact im_iret (q := 136) D342_135 rfl hP
                · replace hP := hP.2 (Decidable.not_not.mp hc107)
                  refine im_ld (q := 127) (i := 0) D342_126 rfl rfl rfl ?_
                  refine im_ld (q := 128) (i := 1) D342_127 rfl rfl rfl ?_
                  refine im_ld (q := 129) (i := 2) D342_128 rfl rfl rfl ?_
                  refine im_ld (q := 130) (i := 3) D342_129 rfl rfl rfl ?_
                  refine im_callV (q := 133) (kd := 1) (y := 346) (n := 3) (ci := 12) (a := 6952) (vs := [.ref 6952, vI p1, vI p2, vL p3]) (r := []) (L2 := [some (.ref 6952), some (vI p1), some (vI p2), some (vL p3), none, none, none]) D342_130 (im_cal cn_342 cl_12_836) (Or.inl rfl) rfl sf_6952 rfl rfl rfl rfl hd ⟨rfl, rfl, rfl, rfl, trivial⟩ ?_
                  refine hP.mono ?_
                  rintro _ e109 M108 ⟨rfl, rfl, hP⟩
                  refine im_bkN ?_
                  refine im_ld (q := 135) (i := 6) D342_133 rfl rfl rfl ?_
                  exact im_iret (q := 136) D342_135 rfl hP
              · replace hP := hP.2 (Decidable.not_not.mp hc106)
                refine im_ld (q := 115) (i := 0) D342_114 rfl rfl rfl ?_
                refine im_iconst (q := 116) D342_115 ?_
                refine im_pfI (q := 119) D342_116 (im_fl cn_342 fl_12_409) sf_6952 rfl rfl ti_12_0 (by decide) ?_
                refine im_iconst (q := 120) D342_119 ?_
                exact im_iret (q := 121) D342_120 rfl hP
            · replace hP := hP.2 (Decidable.not_not.mp hc105)
              refine im_ld (q := 94) (i := 0) D342_93 rfl rfl rfl ?_
              refine im_iconst (q := 95) D342_94 ?_
              refine im_iconst (q := 96) D342_95 ?_
              refine im_ld (q := 97) (i := 1) D342_96 rfl rfl rfl ?_
              refine im_i2l (q := 98) D342_97 hg1 ?_
              refine im_ld (q := 99) (i := 2) D342_98 rfl rfl rfl ?_
              refine im_i2l (q := 100) D342_99 hg6 ?_
              refine im_ld (q := 101) (i := 3) D342_100 rfl rfl rfl ?_
              refine im_iconst (q := 102) D342_101 ?_
              refine im_callV (q := 105) (kd := 1) (y := 307) (n := 6) (ci := 12) (a := 6952) (vs := [.ref 6952, vI 3, vI 3, vL p1, vL p2, vL p3, vI 0]) (r := []) (L2 := [some (.ref 6952), some (vI 3), some (vI 3), some (vL p1), none, some (vL p2), none, some (vL p3), none, some (vI 0), none, none, none, none]) D342_102 (im_cal cn_342 cl_12_740) (Or.inl rfl) rfl sf_6952 rfl rfl rfl rfl hd ⟨rfl, rfl, rfl, rfl, rfl, rfl, rfl, trivial⟩ ?_
              refine hP.mono ?_
              rintro _ e117 M110 ⟨x111, rfl, rfl, hP⟩
              refine im_bkS ?_
              refine im_st1 (q := 107) (i := 6) (L' := [some (.ref 6952), some (vI p1), some (vI p2), some (vL p3), none, some (vI 1), some (vI x111)]) D342_105 (Or.inr rfl) (Nat.le_of_ble_eq_true rfl) rfl ?_
              refine im_ld (q := 109) (i := 6) D342_107 rfl rfl rfl ?_
              refine im_bipush (q := 111) D342_109 rfl ?_
              obtain ⟨hg112, hP⟩ := hP
              refine im_icmp (q := 114) (t := 121) D342_111 rfl hg112 (by decide) (fun hc113 => ?_) (fun hc113 => ?_)
              · replace hP := hP.1 hc113
                refine im_ld (q := 123) (i := 6) D342_121 rfl rfl rfl ?_
                refine im_ifc (q := 126) (t := 133) D342_123 rfl hg112 (fun hc114 => ?_) (fun hc114 => ?_)
                · replace hP := hP.1 hc114
                  refine im_ld (q := 135) (i := 6) D342_133 rfl rfl rfl ?_
                  exact im_iret (q := 136) D342_135 rfl hP
                · replace hP := hP.2 (Decidable.not_not.mp hc114)
                  refine im_ld (q := 127) (i := 0) D342_126 rfl rfl rfl ?_
                  refine im_ld (q := 128) (i := 1) D342_127 rfl rfl rfl ?_
                  refine im_ld (q := 129) (i := 2) D342_128 rfl rfl rfl ?_
                  refine im_ld (q := 130) (i := 3) D342_129 rfl rfl rfl ?_
                  refine im_callV (q := 133) (kd := 1) (y := 346) (n := 3) (ci := 12) (a := 6952) (vs := [.ref 6952, vI p1, vI p2, vL p3]) (r := []) (L2 := [some (.ref 6952), some (vI p1), some (vI p2), some (vL p3), none, none, none]) D342_130 (im_cal cn_342 cl_12_836) (Or.inl rfl) rfl sf_6952 rfl rfl rfl rfl hd ⟨rfl, rfl, rfl, rfl, trivial⟩ ?_
                  refine hP.mono ?_
                  rintro _ e116 M115 ⟨rfl, rfl, hP⟩
                  refine im_bkN ?_
                  refine im_ld (q := 135) (i := 6) D342_133 rfl rfl rfl ?_
                  exact im_iret (q := 136) D342_135 rfl hP
              · replace hP := hP.2 (Decidable.not_not.mp hc113)
                refine im_ld (q := 115) (i := 0) D342_114 rfl rfl rfl ?_
                refine im_iconst (q := 116) D342_115 ?_
                refine im_pfI (q := 119) D342_116 (im_fl cn_342 fl_12_409) sf_6952 rfl rfl ti_12_0 (by decide) ?_
                refine im_iconst (q := 120) D342_119 ?_
                exact im_iret (q := 121) D342_120 rfl hP
          · replace hP := hP.2 (Decidable.not_not.mp hc101)
            refine im_iconst (q := 78) D342_77 ?_
            exact im_iret (q := 79) D342_78 rfl hP
set_option maxRecDepth 20000 in
set_option maxHeartbeats 4000000 in
theorem b_tryBegin_0 {g : im_g} {d : Nat} {e : im_E} {M : im_M} {K : im_K} {p1 p2 p3 : Int} (hd : 1 ≤ d) (hP : (im_i32 p1) ∧ im_T g (d - 1) 268 0 [some (vL p1), none, some (vL 0), none, some (vL 15), none] [] e M (im_ri (fun x3 e_ M2 => e = e_ ∧ (im_i32 x3) ∧ ((x3 = 0 → K (.inl (some (vI (-101)))) e M2) ∧ (¬ x3 = 0 → (im_i32 p2) ∧ im_T g (d - 1) 268 0 [some (vL p2), none, some (vL 0), none, some (vL 15), none] [] e M2 (im_ri (fun x9 e_ M8 => e = e_ ∧ (im_i32 x9) ∧ ((x9 = 0 → K (.inl (some (vI (-101)))) e M8) ∧ (¬ x9 = 0 → im_T g (d - 1) 268 0 [some (vL p3), none, some (vL 0), none, some (vL 1000000000000000), none] [] e M8 (im_ri (fun x14 e_ M13 => e = e_ ∧ (im_i32 x14) ∧ ((x14 = 0 → K (.inl (some (vI (-101)))) e M13) ∧ (¬ x14 = 0 → (0 ≤ p1 ∧ p1 < 16) ∧ (((((M13 6994 p1) = 0 → (0 ≤ p2 ∧ p2 < 16) ∧ ((¬ (M13 6984 p2) = 0 → im_T g (d - 1) 344 0 [some (.ref 6952), some (vI p2), none, none, none, none] [] e (im_u M13 6952 7 (M13 6952 6)) (im_ri (fun x30 e_ M29 => e = e_ ∧ (im_i32 x30) ∧ ((∀ x33 : Int, (((x30 = 0) ∧ x33 = (-11)) ∨ ((¬ x30 = 0) ∧ x33 = 0)) → K (.inl (some (vI x33))) e M29))))))))) ∧ ((((¬ (M13 6994 p1) = 0)) ∨ (((M13 6994 p1) = 0) ∧ ((M13 6984 p2) = 0))) → K (.inl (some (vI (-101)))) e M13))))))))))))))) : im_T g d 343 0 [some (.ref 6952), some (vI p1), some (vI p2), some (vL p3), none, none] [] e M K := by
  refine im_ld (q := 1) (i := 1) D343_0 rfl rfl rfl ?_
  obtain ⟨hg1, hP⟩ := hP
  refine im_i2l (q := 2) D343_1 hg1 ?_
  refine im_lconst (q := 3) (z := 0) D343_2 rfl ?_
  refine im_ldc2 (q := 6) (n := 15) D343_3 rfl ?_
  refine im_callS (q := 9) (kd := 0) (y := 268) (n := 3) (z := 12) (vs := [vL p1, vL 0, vL 15]) (r := []) (L2 := [some (vL p1), none, some (vL 0), none, some (vL 15), none]) D343_6 rfl (im_cal cn_343 cl_12_428) (Or.inl rfl) rfl rfl rfl rfl rfl hd ⟨rfl, rfl, rfl, trivial⟩ ?_
  refine hP.mono ?_
  rintro _ e40 M2 ⟨x3, rfl, rfl, hP⟩
  refine im_bkS ?_
  obtain ⟨hg4, hP⟩ := hP
  refine im_ifc (q := 12) (t := 39) D343_9 rfl hg4 (fun hc5 => ?_) (fun hc5 => ?_)
  · replace hP := hP.1 hc5
    refine im_iconst (q := 40) D343_39 ?_
    refine im_st1 (q := 42) (i := 5) (L' := [some (.ref 6952), some (vI p1), some (vI p2), some (vL p3), none, some (vI 0)]) D343_40 (Or.inr rfl) (Nat.le_of_ble_eq_true rfl) rfl ?_
    refine im_ld (q := 44) (i := 5) D343_42 rfl rfl rfl ?_
    refine im_ifc (q := 47) (t := 65) D343_44 rfl (by decide) (fun _ => ?_) (fun hc => absurd (show (0 : Int) = 0 by decide) hc)
    refine im_bipush (q := 67) D343_65 rfl ?_
    exact im_iret (q := 68) D343_67 rfl hP
  · replace hP := hP.2 hc5
    refine im_ld (q := 13) (i := 2) D343_12 rfl rfl rfl ?_
    obtain ⟨hg6, hP⟩ := hP
    refine im_i2l (q := 14) D343_13 hg6 ?_
    refine im_lconst (q := 15) (z := 0) D343_14 rfl ?_
    refine im_ldc2 (q := 18) (n := 15) D343_15 rfl ?_
    refine im_callS (q := 21) (kd := 0) (y := 268) (n := 3) (z := 12) (vs := [vL p2, vL 0, vL 15]) (r := []) (L2 := [some (vL p2), none, some (vL 0), none, some (vL 15), none]) D343_18 rfl (im_cal cn_343 cl_12_428) (Or.inl rfl) rfl rfl rfl rfl rfl hd ⟨rfl, rfl, rfl, trivial⟩ ?_
    refine hP.mono ?_
    rintro _ e39 M8 ⟨x9, rfl, rfl, hP⟩
    refine im_bkS ?_
    obtain ⟨hg10, hP⟩ := hP
    refine im_ifc (q := 24) (t := 39) D343_21 rfl hg10 (fun hc11 => ?_) (fun hc11 => ?_)
    · replace hP := hP.1 hc11
      refine im_iconst (q := 40) D343_39 ?_
      refine im_st1 (q := 42) (i := 5) (L' := [some (.ref 6952), some (vI p1), some (vI p2), some (vL p3), none, some (vI 0)]) D343_40 (Or.inr rfl) (Nat.le_of_ble_eq_true rfl) rfl ?_
      refine im_ld (q := 44) (i := 5) D343_42 rfl rfl rfl ?_
      refine im_ifc (q := 47) (t := 65) D343_44 rfl (by decide) (fun _ => ?_) (fun hc => absurd (show (0 : Int) = 0 by decide) hc)
      refine im_bipush (q := 67) D343_65 rfl ?_
      exact im_iret (q := 68) D343_67 rfl hP
    · replace hP := hP.2 hc11
      refine im_ld (q := 25) (i := 3) D343_24 rfl rfl rfl ?_
      refine im_lconst (q := 26) (z := 0) D343_25 rfl ?_
      refine im_ldc2 (q := 29) (n := 1000000000000000) D343_26 rfl ?_
      refine im_callS (q := 32) (kd := 0) (y := 268) (n := 3) (z := 12) (vs := [vL p3, vL 0, vL 1000000000000000]) (r := []) (L2 := [some (vL p3), none, some (vL 0), none, some (vL 1000000000000000), none]) D343_29 rfl (im_cal cn_343 cl_12_428) (Or.inl rfl) rfl rfl rfl rfl rfl hd ⟨rfl, rfl, rfl, trivial⟩ ?_
      refine hP.mono ?_
      rintro _ e38 M13 ⟨x14, rfl, rfl, hP⟩
      refine im_bkS ?_
      obtain ⟨hg15, hP⟩ := hP
      refine im_ifc (q := 35) (t := 39) D343_32 rfl hg15 (fun hc16 => ?_) (fun hc16 => ?_)
      · replace hP := hP.1 hc16
        refine im_iconst (q := 40) D343_39 ?_
        refine im_st1 (q := 42) (i := 5) (L' := [some (.ref 6952), some (vI p1), some (vI p2), some (vL p3), none, some (vI 0)]) D343_40 (Or.inr rfl) (Nat.le_of_ble_eq_true rfl) rfl ?_
        refine im_ld (q := 44) (i := 5) D343_42 rfl rfl rfl ?_
        refine im_ifc (q := 47) (t := 65) D343_44 rfl (by decide) (fun _ => ?_) (fun hc => absurd (show (0 : Int) = 0 by decide) hc)
        refine im_bipush (q := 67) D343_65 rfl ?_
        exact im_iret (q := 68) D343_67 rfl hP
      · replace hP := hP.2 hc16
        refine im_iconst (q := 36) D343_35 ?_
        refine im_goto (q := 39) (t := 40) D343_36 rfl ?_
        refine im_st1 (q := 42) (i := 5) (L' := [some (.ref 6952), some (vI p1), some (vI p2), some (vL p3), none, some (vI 1)]) D343_40 (Or.inr rfl) (Nat.le_of_ble_eq_true rfl) rfl ?_
        refine im_ld (q := 44) (i := 5) D343_42 rfl rfl rfl ?_
        refine im_ifc (q := 47) (t := 65) D343_44 rfl (by decide) (fun hc => absurd hc (show ¬ ((1 : Int) = 0) by decide)) (fun _ => ?_)
        refine im_ld (q := 48) (i := 0) D343_47 rfl rfl rfl ?_
        refine im_gfR (q := 51) (b := 6994) D343_48 (im_fl cn_343 fl_12_136) sf_6952 rfl rfl tR_12_66 rf_6952_66 ?_
        refine im_ld (q := 52) (i := 1) D343_51 rfl rfl rfl ?_
        obtain ⟨hg19, hP⟩ := hP
        refine im_rng (j := p1) sf_6994 hg19.1 hg19.2 (fun hr20 => ?_)
        refine im_bald (q := 53) D343_52 sf_6994 (Or.inr rfl) hg19.1 hg19.2 (by decide) rfl ?_
        obtain ⟨hP, hJ26⟩ := hP
        have kJ27 : (((¬ (M13 6994 p1) = 0)) ∨ (((M13 6994 p1) = 0) ∧ ((M13 6984 p2) = 0))) → im_T g d 343 65 [none, none, none, none, none, none] [] e M13 K := by
          intro  hx28
          have hP := hJ26  hx28
          refine im_bipush (q := 67) D343_65 rfl ?_
          exact im_iret (q := 68) D343_67 rfl hP
        refine im_ifc (q := 56) (t := 65) D343_53 rfl (im_z32 hr20) (fun hc21 => ?_) (fun hc21 => ?_)
        · exact (kJ27  (Or.inl hc21)).wk trivial
        · replace hP := hP (Decidable.not_not.mp hc21)
          refine im_ld (q := 57) (i := 0) D343_56 rfl rfl rfl ?_
          refine im_gfR (q := 60) (b := 6984) D343_57 (im_fl cn_343 fl_12_106) sf_6952 rfl rfl tR_12_52 rf_6952_52 ?_
          refine im_ld (q := 61) (i := 2) D343_60 rfl rfl rfl ?_
          obtain ⟨hg22, hP⟩ := hP
          refine im_rng (j := p2) sf_6984 hg22.1 hg22.2 (fun hr23 => ?_)
          refine im_bald (q := 62) D343_61 sf_6984 (Or.inr rfl) hg22.1 hg22.2 (by decide) rfl ?_
          refine im_ifc (q := 65) (t := 68) D343_62 rfl (im_z32 hr23) (fun hc24 => ?_) (fun hc24 => ?_)
          · replace hP := hP hc24
            refine im_ld (q := 69) (i := 0) D343_68 rfl rfl rfl ?_
            refine im_ld (q := 70) (i := 0) D343_69 rfl rfl rfl ?_
            refine im_rng (j := 6) sf_6952 (by decide) (by decide) (fun hr25 => ?_)
            refine im_gfI (q := 73) D343_70 (im_fl cn_343 fl_12_617) sf_6952 rfl rfl tI_12_6 rfl ?_
            refine im_pfI (q := 76) D343_73 (im_fl cn_343 fl_12_449) sf_6952 rfl rfl ti_12_7 hr25 ?_
            refine im_ld (q := 77) (i := 0) D343_76 rfl rfl rfl ?_
            refine im_ld (q := 78) (i := 2) D343_77 rfl rfl rfl ?_
            refine im_callV (q := 81) (kd := 1) (y := 344) (n := 1) (ci := 12) (a := 6952) (vs := [.ref 6952, vI p2]) (r := []) (L2 := [some (.ref 6952), some (vI p2), none, none, none, none]) D343_78 (im_cal cn_343 cl_12_829) (Or.inl rfl) rfl sf_6952 rfl rfl rfl rfl hd ⟨rfl, rfl, trivial⟩ ?_
            refine hP.mono ?_
            rintro _ e37 M29 ⟨x30, rfl, rfl, hP⟩
            refine im_bkS ?_
            obtain ⟨hg31, hP⟩ := hP
            have hJ34 := hP
            have kJ35 : ∀ x33 : Int, (((x30 = 0) ∧ x33 = (-11)) ∨ ((¬ x30 = 0) ∧ x33 = 0)) → im_T g d 343 90 [none, none, none, none, none, none] [vI x33] e M29 K := by
              intro x33 hx36
              have hP := hJ34 x33 hx36
              exact im_iret (q := 91) D343_90 rfl hP
            refine im_ifc (q := 84) (t := 88) D343_81 rfl hg31 (fun hc32 => ?_) (fun hc32 => ?_)
            · refine im_bipush (q := 90) D343_88 rfl ?_
              exact (kJ35 ((-11)) (Or.inl ⟨hc32, rfl⟩)).wk trivial
            · refine im_iconst (q := 85) D343_84 ?_
              refine im_goto (q := 88) (t := 90) D343_85 rfl ?_
              exact (kJ35 (0) (Or.inr ⟨hc32, rfl⟩)).wk trivial
          · exact (kJ27  (Or.inr ⟨(Decidable.not_not.mp hc21), (Decidable.not_not.mp hc24)⟩)).wk trivial
set_option maxRecDepth 20000 in
set_option maxHeartbeats 4000000 in
theorem b_areTold_0 {g : im_g} {d : Nat} {e : im_E} {M : im_M} {K : im_K} {p1 : Int} (hP : (0 ≤ p1 ∧ p1 < 16) ∧ im_T g d 344 9 [some (.ref 6952), some (vI p1), some (vI 1), some (vI (M 6985 p1)), none, none] [] e M K) : im_T g d 344 0 [some (.ref 6952), some (vI p1), none, none, none, none] [] e M K := by
  refine im_iconst (q := 1) D344_0 ?_
  refine im_st1 (q := 2) (i := 2) (L' := [some (.ref 6952), some (vI p1), some (vI 1), none, none, none]) D344_1 (Or.inl ⟨_, rfl, rfl⟩) (Nat.le_of_ble_eq_true rfl) rfl ?_
  refine im_ld (q := 3) (i := 0) D344_2 rfl rfl rfl ?_
  refine im_gfR (q := 6) (b := 6985) D344_3 (im_fl cn_344 fl_12_109) sf_6952 rfl rfl tR_12_53 rf_6952_53 ?_
  refine im_ld (q := 7) (i := 1) D344_6 rfl rfl rfl ?_
  obtain ⟨hg1, hP⟩ := hP
  refine im_rng (j := p1) sf_6985 hg1.1 hg1.2 (fun hr2 => ?_)
  refine im_iald (q := 8) D344_7 sf_6985 hg1.1 hg1.2 (by decide) rfl ?_
  refine im_st1 (q := 9) (i := 3) (L' := [some (.ref 6952), some (vI p1), some (vI 1), some (vI (M 6985 p1)), none, none]) D344_8 (Or.inl ⟨_, rfl, rfl⟩) (Nat.le_of_ble_eq_true rfl) rfl ?_
  exact hP.wk ⟨rfl, rfl, rfl, rfl, trivial⟩
set_option maxRecDepth 20000 in
set_option maxHeartbeats 4000000 in
theorem b_areTold_9 {g : im_g} {d : Nat} {e : im_E} {M : im_M} {K : im_K} {p1 p2 p3 : Int} (hd : 1 ≤ d) (hP : (0 ≤ p1 ∧ p1 < 16) ∧ (im_i32 p3) ∧ (im_i32 ((M 6985 p1) + (M 6986 p1))) ∧ ((((p3 < ((M 6985 p1) + (M 6986 p1)) → (im_i32 p2) ∧ ((¬ p2 = 0 → (0 ≤ p3 ∧ p3 < 5100) ∧ (((M 6960 p3) = 5 → ((¬ (M 6970 p3) = 0 → im_T g (d - 1) 336 0 [some (.ref 6952), some (vL (M 6961 p3)), none, none] [] e M (im_ri (fun x39 e_ M38 => e = e_ ∧ (im_i32 x39) ∧ ((x39 = 0 → im_T g d 344 9 [some (.ref 6952), some (vI p1), some (vI 0), some (vI (p3 + 1)), none, none] [] e M38 K) ∧ (¬ x39 = 0 → im_T g (d - 1) 337 0 [some (.ref 6952), some (vL (M38 6961 p3)), none, none] [] e M38 (im_ri (fun x48 e_ M47 => e = e_ ∧ im_T g (d - 1) 345 0 [some (.ref 6952), some (.ref 6993), some (vI x48), none, none, none] [] e M47 (im_ri (fun x50 e_ M49 => e = e_ ∧ im_T g (d - 1) 298 0 [some (.ref 6952), some (vI x50), none, none, none] [] e M49 (im_rl (fun x52 e_ M51 => e = e_ ∧ im_T g (d - 1) 268 0 [some (vL x52), none, some (vL 0), none, some (vL 1000000000000000), none] [] e M51 (im_ri (fun x54 e_ M53 => e = e_ ∧ im_T g d 344 9 [some (.ref 6952), some (vI p1), some (vI x54), some (vI (p3 + 1)), none, none] [] e (im_u M53 6952 7 (M38 6952 7)) K))))))))))))))))))))) ∧ ((((p3 < ((M 6985 p1) + (M 6986 p1))) ∧ (¬ p2 = 0) ∧ (¬ (M 6960 p3) = 5)) ∨ ((p3 < ((M 6985 p1) + (M 6986 p1))) ∧ (¬ p2 = 0) ∧ ((M 6960 p3) = 5) ∧ ((M 6970 p3) = 0))) → (0 ≤ p3 ∧ p3 < 5100) ∧ ((¬ (M 6960 p3) = 21 → im_T g d 344 9 [some (.ref 6952), some (vI p1), some (vI 1), some (vI (p3 + 1)), none, none] [] e M K) ∧ ((M 6960 p3) = 21 → im_T g (d - 1) 336 0 [some (.ref 6952), some (vL (M 6961 p3)), none, none] [] e M (im_ri (fun x25 e_ M24 => e = e_ ∧ (im_i32 x25) ∧ ((x25 = 0 → im_T g d 344 9 [some (.ref 6952), some (vI p1), some (vI 0), some (vI (p3 + 1)), none, none] [] e M24 K) ∧ (¬ x25 = 0 → im_T g d 344 9 [some (.ref 6952), some (vI p1), some (vI 1), some (vI (p3 + 1)), none, none] [] e M24 K))))))) ∧ ((((((M 6985 p1) + (M 6986 p1)) ≤ p3)) ∨ ((p3 < ((M 6985 p1) + (M 6986 p1))) ∧ (p2 = 0))) → (0 ≤ p2 ∧ p2 ≤ 1) ∧ K (.inl (some (vI p2))) e M))) : im_T g d 344 9 [some (.ref 6952), some (vI p1), some (vI p2), some (vI p3), none, none] [] e M K := by
  refine im_ld (q := 10) (i := 3) D344_9 rfl rfl rfl ?_
  refine im_ld (q := 11) (i := 0) D344_10 rfl rfl rfl ?_
  refine im_gfR (q := 14) (b := 6985) D344_11 (im_fl cn_344 fl_12_109) sf_6952 rfl rfl tR_12_53 rf_6952_53 ?_
  refine im_ld (q := 15) (i := 1) D344_14 rfl rfl rfl ?_
  obtain ⟨hg1, hP⟩ := hP
  refine im_rng (j := p1) sf_6985 hg1.1 hg1.2 (fun hr2 => ?_)
  refine im_iald (q := 16) D344_15 sf_6985 hg1.1 hg1.2 (by decide) rfl ?_
  refine im_ld (q := 17) (i := 0) D344_16 rfl rfl rfl ?_
  refine im_gfR (q := 20) (b := 6986) D344_17 (im_fl cn_344 fl_12_112) sf_6952 rfl rfl tR_12_54 rf_6952_54 ?_
  refine im_ld (q := 21) (i := 1) D344_20 rfl rfl rfl ?_
  refine im_rng (j := p1) sf_6986 hg1.1 hg1.2 (fun hr3 => ?_)
  refine im_iald (q := 22) D344_21 sf_6986 hg1.1 hg1.2 (by decide) rfl ?_
  refine im_iadd (q := 23) D344_22 ?_
  obtain ⟨hg4, hP⟩ := hP
  obtain ⟨hg5, hP⟩ := hP
  obtain ⟨hP, hJ14, hJ32⟩ := hP
  have kJ15 : (((p3 < ((M 6985 p1) + (M 6986 p1))) ∧ (¬ p2 = 0) ∧ (¬ (M 6960 p3) = 5)) ∨ ((p3 < ((M 6985 p1) + (M 6986 p1))) ∧ (¬ p2 = 0) ∧ ((M 6960 p3) = 5) ∧ ((M 6970 p3) = 0))) → im_T g d 344 53 [some (.ref 6952), some (vI p1), none, some (vI p3), none, none] [] e M K := by
    intro  hx16
    have hP := hJ14  hx16
    refine im_iconst (q := 54) D344_53 ?_
    refine im_st1 (q := 56) (i := 4) (L' := [some (.ref 6952), some (vI p1), none, some (vI p3), some (vI 0), none]) D344_54 (Or.inr rfl) (Nat.le_of_ble_eq_true rfl) rfl ?_
    refine im_ld (q := 58) (i := 4) D344_56 rfl rfl rfl ?_
    refine im_ifc (q := 61) (t := 72) D344_58 rfl (by decide) (fun hc => absurd hc (show ¬ (¬ (0 : Int) = 0) by decide)) (fun _ => ?_)
    refine im_ld (q := 62) (i := 0) D344_61 rfl rfl rfl ?_
    refine im_gfR (q := 65) (b := 6960) D344_62 (im_fl cn_344 fl_12_33) sf_6952 rfl rfl tR_12_21 rf_6952_21 ?_
    refine im_ld (q := 66) (i := 3) D344_65 rfl rfl rfl ?_
    obtain ⟨hg18, hP⟩ := hP
    refine im_rng (j := p3) sf_6960 hg18.1 hg18.2 (fun hr19 => ?_)
    refine im_iald (q := 67) D344_66 sf_6960 hg18.1 hg18.2 (by decide) rfl ?_
    refine im_bipush (q := 69) D344_67 rfl ?_
    refine im_icmp (q := 72) (t := 85) D344_69 rfl hr19 (by decide) (fun hc20 => ?_) (fun hc20 => ?_)
    · replace hP := hP.1 hc20
      refine im_iconst (q := 86) D344_85 ?_
      refine im_goto (q := 89) (t := 90) D344_86 rfl ?_
      refine im_st1 (q := 91) (i := 2) (L' := [some (.ref 6952), some (vI p1), some (vI 1), some (vI p3), some (vI 0), none]) D344_90 (Or.inl ⟨_, rfl, rfl⟩) (Nat.le_of_ble_eq_true rfl) rfl ?_
      refine im_ld (q := 92) (i := 2) D344_91 rfl rfl rfl ?_
      refine im_ifc (q := 95) (t := 142) D344_92 rfl (by decide) (fun hc => absurd hc (show ¬ ((1 : Int) = 0) by decide)) (fun _ => ?_)
      refine im_ld (q := 97) (i := 4) D344_95 rfl rfl rfl ?_
      refine im_ifc (q := 100) (t := 142) D344_97 rfl (by decide) (fun _ => ?_) (fun hc => absurd (show (0 : Int) = 0 by decide) hc)
      refine im_iinc (q := 145) (i := 3) (L' := [some (.ref 6952), some (vI p1), some (vI 1), some (vI (p3 + 1)), some (vI 0), none]) D344_142 rfl (Nat.le_of_ble_eq_true rfl) rfl ?_
      refine im_goto (q := 148) (t := 9) D344_145 rfl ?_
      exact hP.wk ⟨rfl, rfl, rfl, rfl, trivial⟩
    · replace hP := hP.2 (Decidable.not_not.mp hc20)
      refine im_ld (q := 73) (i := 0) D344_72 rfl rfl rfl ?_
      refine im_ld (q := 74) (i := 0) D344_73 rfl rfl rfl ?_
      refine im_gfR (q := 77) (b := 6961) D344_74 (im_fl cn_344 fl_12_36) sf_6952 rfl rfl tR_12_22 rf_6952_22 ?_
      refine im_ld (q := 78) (i := 3) D344_77 rfl rfl rfl ?_
      refine im_rng (j := p3) sf_6961 hg18.1 hg18.2 (fun hr23 => ?_)
      refine im_lald (q := 79) D344_78 sf_6961 hg18.1 hg18.2 (by decide) rfl ?_
      refine im_callV (q := 82) (kd := 1) (y := 336) (n := 1) (ci := 12) (a := 6952) (vs := [.ref 6952, vL (M 6961 p3)]) (r := []) (L2 := [some (.ref 6952), some (vL (M 6961 p3)), none, none]) D344_79 (im_cal cn_344 cl_12_809) (Or.inl rfl) rfl sf_6952 rfl rfl rfl rfl hd ⟨rfl, rfl, trivial⟩ ?_
      refine hP.mono ?_
      rintro _ e31 M24 ⟨x25, rfl, rfl, hP⟩
      refine im_bkS ?_
      obtain ⟨hg26, hP⟩ := hP
      refine im_ifc (q := 85) (t := 89) D344_82 rfl hg26 (fun hc27 => ?_) (fun hc27 => ?_)
      · replace hP := hP.1 hc27
        refine im_iconst (q := 90) D344_89 ?_
        refine im_st1 (q := 91) (i := 2) (L' := [some (.ref 6952), some (vI p1), some (vI 0), some (vI p3), some (vI 0), none]) D344_90 (Or.inl ⟨_, rfl, rfl⟩) (Nat.le_of_ble_eq_true rfl) rfl ?_
        refine im_ld (q := 92) (i := 2) D344_91 rfl rfl rfl ?_
        refine im_ifc (q := 95) (t := 142) D344_92 rfl (by decide) (fun _ => ?_) (fun hc => absurd (show (0 : Int) = 0 by decide) hc)
        refine im_iinc (q := 145) (i := 3) (L' := [some (.ref 6952), some (vI p1), some (vI 0), some (vI (p3 + 1)), some (vI 0), none]) D344_142 rfl (Nat.le_of_ble_eq_true rfl) rfl ?_
        refine im_goto (q := 148) (t := 9) D344_145 rfl ?_
        exact hP.wk ⟨rfl, rfl, rfl, rfl, trivial⟩
      · replace hP := hP.2 hc27
        refine im_iconst (q := 86) D344_85 ?_
        refine im_goto (q := 89) (t := 90) D344_86 rfl ?_
        refine im_st1 (q := 91) (i := 2) (L' := [some (.ref 6952), some (vI p1), some (vI 1), some (vI p3), some (vI 0), none]) D344_90 (Or.inl ⟨_, rfl, rfl⟩) (Nat.le_of_ble_eq_true rfl) rfl ?_
        refine im_ld (q := 92) (i := 2) D344_91 rfl rfl rfl ?_
        refine im_ifc (q := 95) (t := 142) D344_92 rfl (by decide) (fun hc => absurd hc (show ¬ ((1 : Int) = 0) by decide)) (fun _ => ?_)
        refine im_ld (q := 97) (i := 4) D344_95 rfl rfl rfl ?_
        refine im_ifc (q := 100) (t := 142) D344_97 rfl (by decide) (fun _ => ?_) (fun hc => absurd (show (0 : Int) = 0 by decide) hc)
        refine im_iinc (q := 145) (i := 3) (L' := [some (.ref 6952), some (vI p1), some (vI 1), some (vI (p3 + 1)), some (vI 0), none]) D344_142 rfl (Nat.le_of_ble_eq_true rfl) rfl ?_
        refine im_goto (q := 148) (t := 9) D344_145 rfl ?_
        exact hP.wk ⟨rfl, rfl, rfl, rfl, trivial⟩
  have kJ33 : (((((M 6985 p1) + (M 6986 p1)) ≤ p3)) ∨ ((p3 < ((M 6985 p1) + (M 6986 p1))) ∧ (p2 = 0))) → im_T g d 344 148 [none, none, some (vI p2), none, none, none] [] e M K := by
    intro  hx34
    have hP := hJ32  hx34
    refine im_ld (q := 149) (i := 2) D344_148 rfl rfl rfl ?_
    obtain ⟨hg35, hP⟩ := hP
    exact im_zret (q := 150) D344_149 rfl hg35 hP
  refine im_icmp (q := 26) (t := 148) D344_23 rfl hg4 hg5 (fun hc6 => ?_) (fun hc6 => ?_)
  · exact (kJ33  (Or.inl hc6)).wk ⟨rfl, trivial⟩
  · replace hP := hP (Int.not_le.mp hc6)
    refine im_ld (q := 27) (i := 2) D344_26 rfl rfl rfl ?_
    obtain ⟨hg7, hP⟩ := hP
    refine im_ifc (q := 30) (t := 148) D344_27 rfl hg7 (fun hc8 => ?_) (fun hc8 => ?_)
    · exact (kJ33  (Or.inr ⟨(Int.not_le.mp hc6), hc8⟩)).wk ⟨rfl, trivial⟩
    · replace hP := hP hc8
      refine im_ld (q := 31) (i := 0) D344_30 rfl rfl rfl ?_
      refine im_gfR (q := 34) (b := 6960) D344_31 (im_fl cn_344 fl_12_33) sf_6952 rfl rfl tR_12_21 rf_6952_21 ?_
      refine im_ld (q := 35) (i := 3) D344_34 rfl rfl rfl ?_
      obtain ⟨hg9, hP⟩ := hP
      refine im_rng (j := p3) sf_6960 hg9.1 hg9.2 (fun hr10 => ?_)
      refine im_iald (q := 36) D344_35 sf_6960 hg9.1 hg9.2 (by decide) rfl ?_
      refine im_iconst (q := 37) D344_36 ?_
      refine im_icmp (q := 40) (t := 53) D344_37 rfl hr10 (by decide) (fun hc11 => ?_) (fun hc11 => ?_)
      · exact (kJ15  (Or.inl ⟨(Int.not_le.mp hc6), hc8, hc11⟩)).wk ⟨rfl, rfl, rfl, trivial⟩
      · replace hP := hP (Decidable.not_not.mp hc11)
        refine im_ld (q := 41) (i := 0) D344_40 rfl rfl rfl ?_
        refine im_gfR (q := 44) (b := 6970) D344_41 (im_fl cn_344 fl_12_63) sf_6952 rfl rfl tR_12_31 rf_6952_31 ?_
        refine im_ld (q := 45) (i := 3) D344_44 rfl rfl rfl ?_
        refine im_rng (j := p3) sf_6970 hg9.1 hg9.2 (fun hr12 => ?_)
        refine im_bald (q := 46) D344_45 sf_6970 (Or.inr rfl) hg9.1 hg9.2 (by decide) rfl ?_
        refine im_ifc (q := 49) (t := 53) D344_46 rfl (im_z32 hr12) (fun hc13 => ?_) (fun hc13 => ?_)
        · exact (kJ15  (Or.inr ⟨(Int.not_le.mp hc6), hc8, (Decidable.not_not.mp hc11), hc13⟩)).wk ⟨rfl, rfl, rfl, trivial⟩
        · replace hP := hP hc13
          refine im_iconst (q := 50) D344_49 ?_
          refine im_goto (q := 53) (t := 54) D344_50 rfl ?_
          refine im_st1 (q := 56) (i := 4) (L' := [some (.ref 6952), some (vI p1), some (vI p2), some (vI p3), some (vI 1), none]) D344_54 (Or.inr rfl) (Nat.le_of_ble_eq_true rfl) rfl ?_
          refine im_ld (q := 58) (i := 4) D344_56 rfl rfl rfl ?_
          refine im_ifc (q := 61) (t := 72) D344_58 rfl (by decide) (fun _ => ?_) (fun hc => absurd (show ¬ (1 : Int) = 0 by decide) hc)
          refine im_ld (q := 73) (i := 0) D344_72 rfl rfl rfl ?_
          refine im_ld (q := 74) (i := 0) D344_73 rfl rfl rfl ?_
          refine im_gfR (q := 77) (b := 6961) D344_74 (im_fl cn_344 fl_12_36) sf_6952 rfl rfl tR_12_22 rf_6952_22 ?_
          refine im_ld (q := 78) (i := 3) D344_77 rfl rfl rfl ?_
          refine im_rng (j := p3) sf_6961 hg9.1 hg9.2 (fun hr37 => ?_)
          refine im_lald (q := 79) D344_78 sf_6961 hg9.1 hg9.2 (by decide) rfl ?_
          refine im_callV (q := 82) (kd := 1) (y := 336) (n := 1) (ci := 12) (a := 6952) (vs := [.ref 6952, vL (M 6961 p3)]) (r := []) (L2 := [some (.ref 6952), some (vL (M 6961 p3)), none, none]) D344_79 (im_cal cn_344 cl_12_809) (Or.inl rfl) rfl sf_6952 rfl rfl rfl rfl hd ⟨rfl, rfl, trivial⟩ ?_
          refine hP.mono ?_
          rintro _ e59 M38 ⟨x39, rfl, rfl, hP⟩
          refine im_bkS ?_
          obtain ⟨hg40, hP⟩ := hP
          refine im_ifc (q := 85) (t := 89) D344_82 rfl hg40 (fun hc41 => ?_) (fun hc41 => ?_)
          · replace hP := hP.1 hc41
            refine im_iconst (q := 90) D344_89 ?_
            refine im_st1 (q := 91) (i := 2) (L' := [some (.ref 6952), some (vI p1), some (vI 0), some (vI p3), some (vI 1), none]) D344_90 (Or.inl ⟨_, rfl, rfl⟩) (Nat.le_of_ble_eq_true rfl) rfl ?_
            refine im_ld (q := 92) (i := 2) D344_91 rfl rfl rfl ?_
            refine im_ifc (q := 95) (t := 142) D344_92 rfl (by decide) (fun _ => ?_) (fun hc => absurd (show (0 : Int) = 0 by decide) hc)
            refine im_iinc (q := 145) (i := 3) (L' := [some (.ref 6952), some (vI p1), some (vI 0), some (vI (p3 + 1)), some (vI 1), none]) D344_142 rfl (Nat.le_of_ble_eq_true rfl) rfl ?_
            refine im_goto (q := 148) (t := 9) D344_145 rfl ?_
            exact hP.wk ⟨rfl, rfl, rfl, rfl, trivial⟩
          · replace hP := hP.2 hc41
            refine im_iconst (q := 86) D344_85 ?_
            refine im_goto (q := 89) (t := 90) D344_86 rfl ?_
            refine im_st1 (q := 91) (i := 2) (L' := [some (.ref 6952), some (vI p1), some (vI 1), some (vI p3), some (vI 1), none]) D344_90 (Or.inl ⟨_, rfl, rfl⟩) (Nat.le_of_ble_eq_true rfl) rfl ?_
            refine im_ld (q := 92) (i := 2) D344_91 rfl rfl rfl ?_
            refine im_ifc (q := 95) (t := 142) D344_92 rfl (by decide) (fun hc => absurd hc (show ¬ ((1 : Int) = 0) by decide)) (fun _ => ?_)
            refine im_ld (q := 97) (i := 4) D344_95 rfl rfl rfl ?_
            refine im_ifc (q := 100) (t := 142) D344_97 rfl (by decide) (fun hc => absurd hc (show ¬ ((1 : Int) = 0) by decide)) (fun _ => ?_)
            refine im_ld (q := 101) (i := 0) D344_100 rfl rfl rfl ?_
            refine im_rng (j := 7) sf_6952 (by decide) (by decide) (fun hr45 => ?_)
            refine im_gfI (q := 104) D344_101 (im_fl cn_344 fl_12_449) sf_6952 rfl rfl tI_12_7 rfl ?_
            refine im_st1 (q := 106) (i := 5) (L' := [some (.ref 6952), some (vI p1), some (vI 1), some (vI p3), some (vI 1), some (vI (M38 6952 7))]) D344_104 (Or.inr rfl) (Nat.le_of_ble_eq_true rfl) rfl ?_
            refine im_ld (q := 107) (i := 0) D344_106 rfl rfl rfl ?_
            refine im_ld (q := 108) (i := 0) D344_107 rfl rfl rfl ?_
            refine im_ld (q := 109) (i := 0) D344_108 rfl rfl rfl ?_
            refine im_gfR (q := 112) (b := 6993) D344_109 (im_fl cn_344 fl_12_133) sf_6952 rfl rfl tR_12_64 rf_6952_64 ?_
            refine im_ld (q := 113) (i := 0) D344_112 rfl rfl rfl ?_
            refine im_ld (q := 114) (i := 0) D344_113 rfl rfl rfl ?_
            refine im_gfR (q := 117) (b := 6961) D344_114 (im_fl cn_344 fl_12_36) sf_6952 rfl rfl tR_12_22 rf_6952_22 ?_
            refine im_ld (q := 118) (i := 3) D344_117 rfl rfl rfl ?_
            refine im_rng (j := p3) sf_6961 hg9.1 hg9.2 (fun hr46 => ?_)
            refine im_lald (q := 119) D344_118 sf_6961 hg9.1 hg9.2 (by decide) rfl ?_
            refine im_callV (q := 122) (kd := 1) (y := 337) (n := 1) (ci := 12) (a := 6952) (vs := [.ref 6952, vL (M38 6961 p3)]) (r := [.ref 6993, .ref 6952, .ref 6952]) (L2 := [some (.ref 6952), some (vL (M38 6961 p3)), none, none]) D344_119 (im_cal cn_344 cl_12_797) (Or.inl rfl) rfl sf_6952 rfl rfl rfl rfl hd ⟨rfl, rfl, trivial⟩ ?_
            refine hP.mono ?_
            rintro _ e58 M47 ⟨x48, rfl, rfl, hP⟩
            refine im_bkS ?_
            refine im_callV (q := 125) (kd := 1) (y := 345) (n := 2) (ci := 12) (a := 6952) (vs := [.ref 6952, .ref 6993, vI x48]) (r := [.ref 6952]) (L2 := [some (.ref 6952), some (.ref 6993), some (vI x48), none, none, none]) D344_122 (im_cal cn_344 cl_12_825) (Or.inl rfl) rfl sf_6952 rfl rfl rfl rfl hd ⟨rfl, rfl, rfl, trivial⟩ ?_
            refine hP.mono ?_
            rintro _ e57 M49 ⟨x50, rfl, rfl, hP⟩
            refine im_bkS ?_
            refine im_callV (q := 128) (kd := 1) (y := 298) (n := 1) (ci := 12) (a := 6952) (vs := [.ref 6952, vI x50]) (r := []) (L2 := [some (.ref 6952), some (vI x50), none, none, none]) D344_125 (im_cal cn_344 cl_12_668) (Or.inl rfl) rfl sf_6952 rfl rfl rfl rfl hd ⟨rfl, rfl, trivial⟩ ?_
            refine hP.mono ?_
            rintro _ e56 M51 ⟨x52, rfl, rfl, hP⟩
            refine im_bkS ?_
            refine im_lconst (q := 129) (z := 0) D344_128 rfl ?_
            refine im_ldc2 (q := 132) (n := 1000000000000000) D344_129 rfl ?_
            refine im_callS (q := 135) (kd := 0) (y := 268) (n := 3) (z := 12) (vs := [vL x52, vL 0, vL 1000000000000000]) (r := []) (L2 := [some (vL x52), none, some (vL 0), none, some (vL 1000000000000000), none]) D344_132 rfl (im_cal cn_344 cl_12_428) (Or.inl rfl) rfl rfl rfl rfl rfl hd ⟨rfl, rfl, rfl, trivial⟩ ?_
            refine hP.mono ?_
            rintro _ e55 M53 ⟨x54, rfl, rfl, hP⟩
            refine im_bkS ?_
            refine im_st1 (q := 136) (i := 2) (L' := [some (.ref 6952), some (vI p1), some (vI x54), some (vI p3), some (vI 1), some (vI (M38 6952 7))]) D344_135 (Or.inl ⟨_, rfl, rfl⟩) (Nat.le_of_ble_eq_true rfl) rfl ?_
            refine im_ld (q := 137) (i := 0) D344_136 rfl rfl rfl ?_
            refine im_ld (q := 139) (i := 5) D344_137 rfl rfl rfl ?_
            refine im_pfI (q := 142) D344_139 (im_fl cn_344 fl_12_449) sf_6952 rfl rfl ti_12_7 hr45 ?_
            refine im_iinc (q := 145) (i := 3) (L' := [some (.ref 6952), some (vI p1), some (vI x54), some (vI (p3 + 1)), some (vI 1), some (vI (M38 6952 7))]) D344_142 rfl (Nat.le_of_ble_eq_true rfl) rfl ?_
            refine im_goto (q := 148) (t := 9) D344_145 rfl ?_
            exact hP.wk ⟨rfl, rfl, rfl, rfl, trivial⟩

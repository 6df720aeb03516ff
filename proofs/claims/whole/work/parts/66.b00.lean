/-! blocks of the reference's numbers -/
theorem D292_0 {g : im_g} : im_D g 292 0 (.iload_n 2) 1 := im_D.of (by decide +kernel)
theorem D292_1 {g : im_g} : im_D g 292 1 (.istore 4) 3 := im_D.of (by decide +kernel)
theorem D292_3 {g : im_g} : im_D g 292 3 (.iload 4) 5 := im_D.of (by decide +kernel)
theorem D292_5 {g : im_g} : im_D g 292 5 (.ifCond .le 23) 8 := im_D.of (by decide +kernel)
theorem D292_8 {g : im_g} : im_D g 292 8 (.aload_n 0) 9 := im_D.of (by decide +kernel)
theorem D292_9 {g : im_g} : im_D g 292 9 (.getfield 17) 12 := im_D.of (by decide +kernel)
theorem D292_12 {g : im_g} : im_D g 292 12 (.iload_n 1) 13 := im_D.of (by decide +kernel)
theorem D292_13 {g : im_g} : im_D g 292 13 (.iconst 1) 14 := im_D.of (by decide +kernel)
theorem D292_14 {g : im_g} : im_D g 292 14 (.iadd) 15 := im_D.of (by decide +kernel)
theorem D292_15 {g : im_g} : im_D g 292 15 (.iload 4) 17 := im_D.of (by decide +kernel)
theorem D292_17 {g : im_g} : im_D g 292 17 (.iadd) 18 := im_D.of (by decide +kernel)
theorem D292_18 {g : im_g} : im_D g 292 18 (.iaload) 19 := im_D.of (by decide +kernel)
theorem D292_19 {g : im_g} : im_D g 292 19 (.ifCond .ne 9) 22 := im_D.of (by decide +kernel)
theorem D292_22 {g : im_g} : im_D g 292 22 (.iinc 4 (-1)) 25 := im_D.of (by decide +kernel)
theorem D292_25 {g : im_g} : im_D g 292 25 (.goto (-22)) 28 := im_D.of (by decide +kernel)
theorem D292_28 {g : im_g} : im_D g 292 28 (.aload_n 0) 29 := im_D.of (by decide +kernel)
theorem D292_29 {g : im_g} : im_D g 292 29 (.getfield 17) 32 := im_D.of (by decide +kernel)
theorem D292_32 {g : im_g} : im_D g 292 32 (.iload_n 1) 33 := im_D.of (by decide +kernel)
theorem D292_33 {g : im_g} : im_D g 292 33 (.iload 4) 35 := im_D.of (by decide +kernel)
theorem D292_35 {g : im_g} : im_D g 292 35 (.ifCond .ne 7) 38 := im_D.of (by decide +kernel)
theorem D292_38 {g : im_g} : im_D g 292 38 (.iconst 0) 39 := im_D.of (by decide +kernel)
theorem D292_39 {g : im_g} : im_D g 292 39 (.goto 4) 42 := im_D.of (by decide +kernel)
theorem D292_42 {g : im_g} : im_D g 292 42 (.iload_n 3) 43 := im_D.of (by decide +kernel)
theorem D292_43 {g : im_g} : im_D g 292 43 (.iastore) 44 := im_D.of (by decide +kernel)
theorem D292_44 {g : im_g} : im_D g 292 44 (.aload_n 0) 45 := im_D.of (by decide +kernel)
theorem D292_45 {g : im_g} : im_D g 292 45 (.getfield 17) 48 := im_D.of (by decide +kernel)
theorem D292_48 {g : im_g} : im_D g 292 48 (.iload_n 1) 49 := im_D.of (by decide +kernel)
theorem D292_49 {g : im_g} : im_D g 292 49 (.iconst 1) 50 := im_D.of (by decide +kernel)
theorem D292_50 {g : im_g} : im_D g 292 50 (.iadd) 51 := im_D.of (by decide +kernel)
theorem D292_51 {g : im_g} : im_D g 292 51 (.iload 4) 53 := im_D.of (by decide +kernel)
theorem D292_53 {g : im_g} : im_D g 292 53 (.iastore) 54 := im_D.of (by decide +kernel)
theorem D292_54 {g : im_g} : im_D g 292 54 (.aload_n 0) 55 := im_D.of (by decide +kernel)
theorem D292_55 {g : im_g} : im_D g 292 55 (.iload_n 1) 56 := im_D.of (by decide +kernel)
theorem D292_56 {g : im_g} : im_D g 292 56 (.iconst 2) 57 := im_D.of (by decide +kernel)
theorem D292_57 {g : im_g} : im_D g 292 57 (.iadd) 58 := im_D.of (by decide +kernel)
theorem D292_58 {g : im_g} : im_D g 292 58 (.iload 4) 60 := im_D.of (by decide +kernel)
theorem D292_60 {g : im_g} : im_D g 292 60 (.iadd) 61 := im_D.of (by decide +kernel)
theorem D292_61 {g : im_g} : im_D g 292 61 (.putfield 449) 64 := im_D.of (by decide +kernel)
theorem D292_64 {g : im_g} : im_D g 292 64 (.aload_n 0) 65 := im_D.of (by decide +kernel)
theorem D292_65 {g : im_g} : im_D g 292 65 (.aload_n 0) 66 := im_D.of (by decide +kernel)
theorem D292_66 {g : im_g} : im_D g 292 66 (.getfield 452) 69 := im_D.of (by decide +kernel)
theorem D292_69 {g : im_g} : im_D g 292 69 (.ifCond .ne 11) 72 := im_D.of (by decide +kernel)
theorem D292_72 {g : im_g} : im_D g 292 72 (.iload 4) 74 := im_D.of (by decide +kernel)
theorem D292_74 {g : im_g} : im_D g 292 74 (.sipush 300) 77 := im_D.of (by decide +kernel)
theorem D292_77 {g : im_g} : im_D g 292 77 (.if_icmp .le 7) 80 := im_D.of (by decide +kernel)
theorem D292_80 {g : im_g} : im_D g 292 80 (.iconst 1) 81 := im_D.of (by decide +kernel)
theorem D292_81 {g : im_g} : im_D g 292 81 (.goto 4) 84 := im_D.of (by decide +kernel)
theorem D292_84 {g : im_g} : im_D g 292 84 (.iconst 0) 85 := im_D.of (by decide +kernel)
theorem D292_85 {g : im_g} : im_D g 292 85 (.putfield 452) 88 := im_D.of (by decide +kernel)
theorem D292_88 {g : im_g} : im_D g 292 88 (.iload_n 1) 89 := im_D.of (by decide +kernel)
theorem D292_89 {g : im_g} : im_D g 292 89 (.ireturn) 90 := im_D.of (by decide +kernel)
theorem D298_0 {g : im_g} : im_D g 298 0 (.aload_n 0) 1 := im_D.of (by decide +kernel)
theorem D298_1 {g : im_g} : im_D g 298 1 (.getfield 17) 4 := im_D.of (by decide +kernel)
theorem D298_4 {g : im_g} : im_D g 298 4 (.iload_n 1) 5 := im_D.of (by decide +kernel)
theorem D298_5 {g : im_g} : im_D g 298 5 (.iaload) 6 := im_D.of (by decide +kernel)
theorem D298_6 {g : im_g} : im_D g 298 6 (.ifCond .ge 7) 9 := im_D.of (by decide +kernel)
theorem D298_9 {g : im_g} : im_D g 298 9 (.ldc2_w 459) 12 := im_D.of (by decide +kernel)
theorem D298_12 {g : im_g} : im_D g 298 12 (.lreturn) 13 := im_D.of (by decide +kernel)
theorem D298_13 {g : im_g} : im_D g 298 13 (.aload_n 0) 14 := im_D.of (by decide +kernel)
theorem D298_14 {g : im_g} : im_D g 298 14 (.getfield 17) 17 := im_D.of (by decide +kernel)
theorem D298_17 {g : im_g} : im_D g 298 17 (.iload_n 1) 18 := im_D.of (by decide +kernel)
theorem D298_18 {g : im_g} : im_D g 298 18 (.iconst 1) 19 := im_D.of (by decide +kernel)
theorem D298_19 {g : im_g} : im_D g 298 19 (.iadd) 20 := im_D.of (by decide +kernel)
theorem D298_20 {g : im_g} : im_D g 298 20 (.iaload) 21 := im_D.of (by decide +kernel)
theorem D298_21 {g : im_g} : im_D g 298 21 (.bipush 17) 23 := im_D.of (by decide +kernel)
theorem D298_23 {g : im_g} : im_D g 298 23 (.if_icmp .le 7) 26 := im_D.of (by decide +kernel)
theorem D298_26 {g : im_g} : im_D g 298 26 (.ldc2_w 461) 29 := im_D.of (by decide +kernel)
theorem D298_29 {g : im_g} : im_D g 298 29 (.lreturn) 30 := im_D.of (by decide +kernel)
theorem D298_30 {g : im_g} : im_D g 298 30 (.lconst 0) 31 := im_D.of (by decide +kernel)
theorem D298_31 {g : im_g} : im_D g 298 31 (.lstore_n 2) 32 := im_D.of (by decide +kernel)
theorem D298_32 {g : im_g} : im_D g 298 32 (.aload_n 0) 33 := im_D.of (by decide +kernel)
theorem D298_33 {g : im_g} : im_D g 298 33 (.getfield 17) 36 := im_D.of (by decide +kernel)
theorem D298_36 {g : im_g} : im_D g 298 36 (.iload_n 1) 37 := im_D.of (by decide +kernel)
theorem D298_37 {g : im_g} : im_D g 298 37 (.iconst 1) 38 := im_D.of (by decide +kernel)
theorem D298_38 {g : im_g} : im_D g 298 38 (.iadd) 39 := im_D.of (by decide +kernel)
theorem D298_39 {g : im_g} : im_D g 298 39 (.iaload) 40 := im_D.of (by decide +kernel)
theorem D298_40 {g : im_g} : im_D g 298 40 (.iconst 1) 41 := im_D.of (by decide +kernel)
theorem D298_41 {g : im_g} : im_D g 298 41 (.isub) 42 := im_D.of (by decide +kernel)
theorem D298_42 {g : im_g} : im_D g 298 42 (.istore 4) 44 := im_D.of (by decide +kernel)
theorem D298_44 {g : im_g} : im_D g 298 44 (.iload 4) 46 := im_D.of (by decide +kernel)
theorem D298_46 {g : im_g} : im_D g 298 46 (.ifCond .lt 28) 49 := im_D.of (by decide +kernel)
theorem D298_49 {g : im_g} : im_D g 298 49 (.ldc2_w 447) 52 := im_D.of (by decide +kernel)
theorem D298_52 {g : im_g} : im_D g 298 52 (.lload_n 2) 53 := im_D.of (by decide +kernel)
theorem D298_53 {g : im_g} : im_D g 298 53 (.lmul) 54 := im_D.of (by decide +kernel)
theorem D298_54 {g : im_g} : im_D g 298 54 (.aload_n 0) 55 := im_D.of (by decide +kernel)
theorem D298_55 {g : im_g} : im_D g 298 55 (.getfield 17) 58 := im_D.of (by decide +kernel)
theorem D298_58 {g : im_g} : im_D g 298 58 (.iload_n 1) 59 := im_D.of (by decide +kernel)
theorem D298_59 {g : im_g} : im_D g 298 59 (.iconst 2) 60 := im_D.of (by decide +kernel)
theorem D298_60 {g : im_g} : im_D g 298 60 (.iadd) 61 := im_D.of (by decide +kernel)
theorem D298_61 {g : im_g} : im_D g 298 61 (.iload 4) 63 := im_D.of (by decide +kernel)
theorem D298_63 {g : im_g} : im_D g 298 63 (.iadd) 64 := im_D.of (by decide +kernel)
theorem D298_64 {g : im_g} : im_D g 298 64 (.iaload) 65 := im_D.of (by decide +kernel)
theorem D298_65 {g : im_g} : im_D g 298 65 (.i2l) 66 := im_D.of (by decide +kernel)
theorem D298_66 {g : im_g} : im_D g 298 66 (.ladd) 67 := im_D.of (by decide +kernel)
theorem D298_67 {g : im_g} : im_D g 298 67 (.lstore_n 2) 68 := im_D.of (by decide +kernel)
theorem D298_68 {g : im_g} : im_D g 298 68 (.iinc 4 (-1)) 71 := im_D.of (by decide +kernel)
theorem D298_71 {g : im_g} : im_D g 298 71 (.goto (-27)) 74 := im_D.of (by decide +kernel)
theorem D298_74 {g : im_g} : im_D g 298 74 (.lload_n 2) 75 := im_D.of (by decide +kernel)
theorem D298_75 {g : im_g} : im_D g 298 75 (.lreturn) 76 := im_D.of (by decide +kernel)
theorem D302_0 {g : im_g} : im_D g 302 0 (.aload_n 0) 1 := im_D.of (by decide +kernel)
theorem D302_1 {g : im_g} : im_D g 302 1 (.getfield 17) 4 := im_D.of (by decide +kernel)
theorem D302_4 {g : im_g} : im_D g 302 4 (.iload_n 1) 5 := im_D.of (by decide +kernel)
theorem D302_5 {g : im_g} : im_D g 302 5 (.iaload) 6 := im_D.of (by decide +kernel)
theorem D302_6 {g : im_g} : im_D g 302 6 (.aload_n 0) 7 := im_D.of (by decide +kernel)
theorem D302_7 {g : im_g} : im_D g 302 7 (.getfield 17) 10 := im_D.of (by decide +kernel)
theorem D302_10 {g : im_g} : im_D g 302 10 (.iload_n 2) 11 := im_D.of (by decide +kernel)
theorem D302_11 {g : im_g} : im_D g 302 11 (.iaload) 12 := im_D.of (by decide +kernel)
theorem D302_12 {g : im_g} : im_D g 302 12 (.if_icmp .eq 24) 15 := im_D.of (by decide +kernel)
theorem D302_15 {g : im_g} : im_D g 302 15 (.aload_n 0) 16 := im_D.of (by decide +kernel)
theorem D302_16 {g : im_g} : im_D g 302 16 (.getfield 17) 19 := im_D.of (by decide +kernel)
theorem D302_19 {g : im_g} : im_D g 302 19 (.iload_n 1) 20 := im_D.of (by decide +kernel)
theorem D302_20 {g : im_g} : im_D g 302 20 (.iaload) 21 := im_D.of (by decide +kernel)
theorem D302_21 {g : im_g} : im_D g 302 21 (.aload_n 0) 22 := im_D.of (by decide +kernel)
theorem D302_22 {g : im_g} : im_D g 302 22 (.getfield 17) 25 := im_D.of (by decide +kernel)
theorem D302_25 {g : im_g} : im_D g 302 25 (.iload_n 2) 26 := im_D.of (by decide +kernel)
theorem D302_26 {g : im_g} : im_D g 302 26 (.iaload) 27 := im_D.of (by decide +kernel)
theorem D302_27 {g : im_g} : im_D g 302 27 (.if_icmp .ge 7) 30 := im_D.of (by decide +kernel)
theorem D302_30 {g : im_g} : im_D g 302 30 (.iconst (-1)) 31 := im_D.of (by decide +kernel)
theorem D302_31 {g : im_g} : im_D g 302 31 (.goto 4) 34 := im_D.of (by decide +kernel)
theorem D302_34 {g : im_g} : im_D g 302 34 (.iconst 1) 35 := im_D.of (by decide +kernel)
theorem D302_35 {g : im_g} : im_D g 302 35 (.ireturn) 36 := im_D.of (by decide +kernel)
theorem D302_36 {g : im_g} : im_D g 302 36 (.aload_n 0) 37 := im_D.of (by decide +kernel)
theorem D302_37 {g : im_g} : im_D g 302 37 (.getfield 17) 40 := im_D.of (by decide +kernel)
theorem D302_40 {g : im_g} : im_D g 302 40 (.iload_n 1) 41 := im_D.of (by decide +kernel)
theorem D302_41 {g : im_g} : im_D g 302 41 (.iaload) 42 := im_D.of (by decide +kernel)
theorem D302_42 {g : im_g} : im_D g 302 42 (.ifCond .ge 12) 45 := im_D.of (by decide +kernel)
theorem D302_45 {g : im_g} : im_D g 302 45 (.aload_n 0) 46 := im_D.of (by decide +kernel)
theorem D302_46 {g : im_g} : im_D g 302 46 (.iload_n 2) 47 := im_D.of (by decide +kernel)
theorem D302_47 {g : im_g} : im_D g 302 47 (.iload_n 1) 48 := im_D.of (by decide +kernel)
theorem D302_48 {g : im_g} : im_D g 302 48 (.invokevirtual 467) 51 := im_D.of (by decide +kernel)
theorem D302_51 {g : im_g} : im_D g 302 51 (.goto 9) 54 := im_D.of (by decide +kernel)
theorem D302_54 {g : im_g} : im_D g 302 54 (.aload_n 0) 55 := im_D.of (by decide +kernel)
theorem D302_55 {g : im_g} : im_D g 302 55 (.iload_n 1) 56 := im_D.of (by decide +kernel)
theorem D302_56 {g : im_g} : im_D g 302 56 (.iload_n 2) 57 := im_D.of (by decide +kernel)
theorem D302_57 {g : im_g} : im_D g 302 57 (.invokevirtual 467) 60 := im_D.of (by decide +kernel)
theorem D302_60 {g : im_g} : im_D g 302 60 (.ireturn) 61 := im_D.of (by decide +kernel)
theorem D303_0 {g : im_g} : im_D g 303 0 (.aload_n 0) 1 := im_D.of (by decide +kernel)
theorem D303_1 {g : im_g} : im_D g 303 1 (.getfield 17) 4 := im_D.of (by decide +kernel)
theorem D303_4 {g : im_g} : im_D g 303 4 (.iload_n 1) 5 := im_D.of (by decide +kernel)
theorem D303_5 {g : im_g} : im_D g 303 5 (.iconst 1) 6 := im_D.of (by decide +kernel)
theorem D303_6 {g : im_g} : im_D g 303 6 (.iadd) 7 := im_D.of (by decide +kernel)
theorem D303_7 {g : im_g} : im_D g 303 7 (.iaload) 8 := im_D.of (by decide +kernel)
theorem D303_8 {g : im_g} : im_D g 303 8 (.aload_n 0) 9 := im_D.of (by decide +kernel)
theorem D303_9 {g : im_g} : im_D g 303 9 (.getfield 17) 12 := im_D.of (by decide +kernel)
theorem D303_12 {g : im_g} : im_D g 303 12 (.iload_n 2) 13 := im_D.of (by decide +kernel)
theorem D303_13 {g : im_g} : im_D g 303 13 (.iconst 1) 14 := im_D.of (by decide +kernel)
theorem D303_14 {g : im_g} : im_D g 303 14 (.iadd) 15 := im_D.of (by decide +kernel)
theorem D303_15 {g : im_g} : im_D g 303 15 (.iaload) 16 := im_D.of (by decide +kernel)
theorem D303_16 {g : im_g} : im_D g 303 16 (.if_icmp .le 14) 19 := im_D.of (by decide +kernel)
theorem D303_19 {g : im_g} : im_D g 303 19 (.aload_n 0) 20 := im_D.of (by decide +kernel)
theorem D303_20 {g : im_g} : im_D g 303 20 (.getfield 17) 23 := im_D.of (by decide +kernel)
theorem D303_23 {g : im_g} : im_D g 303 23 (.iload_n 1) 24 := im_D.of (by decide +kernel)
theorem D303_24 {g : im_g} : im_D g 303 24 (.iconst 1) 25 := im_D.of (by decide +kernel)
theorem D303_25 {g : im_g} : im_D g 303 25 (.iadd) 26 := im_D.of (by decide +kernel)
theorem D303_26 {g : im_g} : im_D g 303 26 (.iaload) 27 := im_D.of (by decide +kernel)
theorem D303_27 {g : im_g} : im_D g 303 27 (.goto 11) 30 := im_D.of (by decide +kernel)
theorem D303_30 {g : im_g} : im_D g 303 30 (.aload_n 0) 31 := im_D.of (by decide +kernel)
theorem D303_31 {g : im_g} : im_D g 303 31 (.getfield 17) 34 := im_D.of (by decide +kernel)
theorem D303_34 {g : im_g} : im_D g 303 34 (.iload_n 2) 35 := im_D.of (by decide +kernel)
theorem D303_35 {g : im_g} : im_D g 303 35 (.iconst 1) 36 := im_D.of (by decide +kernel)
theorem D303_36 {g : im_g} : im_D g 303 36 (.iadd) 37 := im_D.of (by decide +kernel)
theorem D303_37 {g : im_g} : im_D g 303 37 (.iaload) 38 := im_D.of (by decide +kernel)
theorem D303_38 {g : im_g} : im_D g 303 38 (.istore_n 3) 39 := im_D.of (by decide +kernel)
theorem D303_39 {g : im_g} : im_D g 303 39 (.iload_n 3) 40 := im_D.of (by decide +kernel)
theorem D303_40 {g : im_g} : im_D g 303 40 (.iconst 1) 41 := im_D.of (by decide +kernel)
theorem D303_41 {g : im_g} : im_D g 303 41 (.isub) 42 := im_D.of (by decide +kernel)
theorem D303_42 {g : im_g} : im_D g 303 42 (.istore 4) 44 := im_D.of (by decide +kernel)
theorem D303_44 {g : im_g} : im_D g 303 44 (.iload 4) 46 := im_D.of (by decide +kernel)
theorem D303_46 {g : im_g} : im_D g 303 46 (.ifCond .lt 49) 49 := im_D.of (by decide +kernel)
theorem D303_49 {g : im_g} : im_D g 303 49 (.aload_n 0) 50 := im_D.of (by decide +kernel)
theorem D303_50 {g : im_g} : im_D g 303 50 (.iload_n 1) 51 := im_D.of (by decide +kernel)
theorem D303_51 {g : im_g} : im_D g 303 51 (.iload 4) 53 := im_D.of (by decide +kernel)
theorem D303_53 {g : im_g} : im_D g 303 53 (.invokevirtual 463) 56 := im_D.of (by decide +kernel)
theorem D303_56 {g : im_g} : im_D g 303 56 (.aload_n 0) 57 := im_D.of (by decide +kernel)
theorem D303_57 {g : im_g} : im_D g 303 57 (.iload_n 2) 58 := im_D.of (by decide +kernel)
theorem D303_58 {g : im_g} : im_D g 303 58 (.iload 4) 60 := im_D.of (by decide +kernel)
theorem D303_60 {g : im_g} : im_D g 303 60 (.invokevirtual 463) 63 := im_D.of (by decide +kernel)
theorem D303_63 {g : im_g} : im_D g 303 63 (.if_icmp .eq 26) 66 := im_D.of (by decide +kernel)
theorem D303_66 {g : im_g} : im_D g 303 66 (.aload_n 0) 67 := im_D.of (by decide +kernel)
theorem D303_67 {g : im_g} : im_D g 303 67 (.iload_n 1) 68 := im_D.of (by decide +kernel)
theorem D303_68 {g : im_g} : im_D g 303 68 (.iload 4) 70 := im_D.of (by decide +kernel)
theorem D303_70 {g : im_g} : im_D g 303 70 (.invokevirtual 463) 73 := im_D.of (by decide +kernel)
theorem D303_73 {g : im_g} : im_D g 303 73 (.aload_n 0) 74 := im_D.of (by decide +kernel)
theorem D303_74 {g : im_g} : im_D g 303 74 (.iload_n 2) 75 := im_D.of (by decide +kernel)
theorem D303_75 {g : im_g} : im_D g 303 75 (.iload 4) 77 := im_D.of (by decide +kernel)
theorem D303_77 {g : im_g} : im_D g 303 77 (.invokevirtual 463) 80 := im_D.of (by decide +kernel)
theorem D303_80 {g : im_g} : im_D g 303 80 (.if_icmp .ge 7) 83 := im_D.of (by decide +kernel)
theorem D303_83 {g : im_g} : im_D g 303 83 (.iconst (-1)) 84 := im_D.of (by decide +kernel)
theorem D303_84 {g : im_g} : im_D g 303 84 (.goto 4) 87 := im_D.of (by decide +kernel)
theorem D303_87 {g : im_g} : im_D g 303 87 (.iconst 1) 88 := im_D.of (by decide +kernel)
theorem D303_88 {g : im_g} : im_D g 303 88 (.ireturn) 89 := im_D.of (by decide +kernel)
theorem D303_89 {g : im_g} : im_D g 303 89 (.iinc 4 (-1)) 92 := im_D.of (by decide +kernel)
theorem D303_92 {g : im_g} : im_D g 303 92 (.goto (-48)) 95 := im_D.of (by decide +kernel)
theorem D303_95 {g : im_g} : im_D g 303 95 (.iconst 0) 96 := im_D.of (by decide +kernel)
theorem D303_96 {g : im_g} : im_D g 303 96 (.ireturn) 97 := im_D.of (by decide +kernel)
theorem D304_0 {g : im_g} : im_D g 304 0 (.iload_n 2) 1 := im_D.of (by decide +kernel)
theorem D304_1 {g : im_g} : im_D g 304 1 (.aload_n 0) 2 := im_D.of (by decide +kernel)
theorem D304_2 {g : im_g} : im_D g 304 2 (.getfield 17) 5 := im_D.of (by decide +kernel)
theorem D304_5 {g : im_g} : im_D g 304 5 (.iload_n 1) 6 := im_D.of (by decide +kernel)
theorem D304_6 {g : im_g} : im_D g 304 6 (.iconst 1) 7 := im_D.of (by decide +kernel)
theorem D304_7 {g : im_g} : im_D g 304 7 (.iadd) 8 := im_D.of (by decide +kernel)
theorem D304_8 {g : im_g} : im_D g 304 8 (.iaload) 9 := im_D.of (by decide +kernel)
theorem D304_9 {g : im_g} : im_D g 304 9 (.if_icmp .ge 16) 12 := im_D.of (by decide +kernel)
theorem D304_12 {g : im_g} : im_D g 304 12 (.aload_n 0) 13 := im_D.of (by decide +kernel)
theorem D304_13 {g : im_g} : im_D g 304 13 (.getfield 17) 16 := im_D.of (by decide +kernel)
theorem D304_16 {g : im_g} : im_D g 304 16 (.iload_n 1) 17 := im_D.of (by decide +kernel)
theorem D304_17 {g : im_g} : im_D g 304 17 (.iconst 2) 18 := im_D.of (by decide +kernel)
theorem D304_18 {g : im_g} : im_D g 304 18 (.iadd) 19 := im_D.of (by decide +kernel)
theorem D304_19 {g : im_g} : im_D g 304 19 (.iload_n 2) 20 := im_D.of (by decide +kernel)
theorem D304_20 {g : im_g} : im_D g 304 20 (.iadd) 21 := im_D.of (by decide +kernel)
theorem D304_21 {g : im_g} : im_D g 304 21 (.iaload) 22 := im_D.of (by decide +kernel)
theorem D304_22 {g : im_g} : im_D g 304 22 (.goto 4) 25 := im_D.of (by decide +kernel)
theorem D304_25 {g : im_g} : im_D g 304 25 (.iconst 0) 26 := im_D.of (by decide +kernel)
theorem D304_26 {g : im_g} : im_D g 304 26 (.ireturn) 27 := im_D.of (by decide +kernel)
theorem D372_0 {g : im_g} : im_D g 372 0 (.aload_n 0) 1 := im_D.of (by decide +kernel)
theorem D372_1 {g : im_g} : im_D g 372 1 (.getfield 17) 4 := im_D.of (by decide +kernel)
theorem D372_4 {g : im_g} : im_D g 372 4 (.iload_n 2) 5 := im_D.of (by decide +kernel)
theorem D372_5 {g : im_g} : im_D g 372 5 (.iaload) 6 := im_D.of (by decide +kernel)
theorem D372_6 {g : im_g} : im_D g 372 6 (.iload_n 3) 7 := im_D.of (by decide +kernel)
theorem D372_7 {g : im_g} : im_D g 372 7 (.imul) 8 := im_D.of (by decide +kernel)
theorem D372_8 {g : im_g} : im_D g 372 8 (.istore 4) 10 := im_D.of (by decide +kernel)
theorem D372_10 {g : im_g} : im_D g 372 10 (.iload 4) 12 := im_D.of (by decide +kernel)
theorem D372_12 {g : im_g} : im_D g 372 12 (.ifCond .ne 9) 15 := im_D.of (by decide +kernel)
theorem D372_15 {g : im_g} : im_D g 372 15 (.aload_n 0) 16 := im_D.of (by decide +kernel)
theorem D372_16 {g : im_g} : im_D g 372 16 (.iload_n 1) 17 := im_D.of (by decide +kernel)
theorem D372_17 {g : im_g} : im_D g 372 17 (.invokevirtual 470) 20 := im_D.of (by decide +kernel)
theorem D372_20 {g : im_g} : im_D g 372 20 (.ireturn) 21 := im_D.of (by decide +kernel)
theorem D372_21 {g : im_g} : im_D g 372 21 (.aload_n 0) 22 := im_D.of (by decide +kernel)
theorem D372_22 {g : im_g} : im_D g 372 22 (.getfield 17) 25 := im_D.of (by decide +kernel)
theorem D372_25 {g : im_g} : im_D g 372 25 (.iload_n 1) 26 := im_D.of (by decide +kernel)
theorem D372_26 {g : im_g} : im_D g 372 26 (.iconst 1) 27 := im_D.of (by decide +kernel)
theorem D372_27 {g : im_g} : im_D g 372 27 (.iadd) 28 := im_D.of (by decide +kernel)
theorem D372_28 {g : im_g} : im_D g 372 28 (.iaload) 29 := im_D.of (by decide +kernel)
theorem D372_29 {g : im_g} : im_D g 372 29 (.aload_n 0) 30 := im_D.of (by decide +kernel)
theorem D372_30 {g : im_g} : im_D g 372 30 (.getfield 17) 33 := im_D.of (by decide +kernel)
theorem D372_33 {g : im_g} : im_D g 372 33 (.iload_n 2) 34 := im_D.of (by decide +kernel)
theorem D372_34 {g : im_g} : im_D g 372 34 (.iconst 1) 35 := im_D.of (by decide +kernel)
theorem D372_35 {g : im_g} : im_D g 372 35 (.iadd) 36 := im_D.of (by decide +kernel)
theorem D372_36 {g : im_g} : im_D g 372 36 (.iaload) 37 := im_D.of (by decide +kernel)
theorem D372_37 {g : im_g} : im_D g 372 37 (.if_icmp .le 14) 40 := im_D.of (by decide +kernel)
theorem D372_40 {g : im_g} : im_D g 372 40 (.aload_n 0) 41 := im_D.of (by decide +kernel)
theorem D372_41 {g : im_g} : im_D g 372 41 (.getfield 17) 44 := im_D.of (by decide +kernel)
theorem D372_44 {g : im_g} : im_D g 372 44 (.iload_n 1) 45 := im_D.of (by decide +kernel)
theorem D372_45 {g : im_g} : im_D g 372 45 (.iconst 1) 46 := im_D.of (by decide +kernel)
theorem D372_46 {g : im_g} : im_D g 372 46 (.iadd) 47 := im_D.of (by decide +kernel)
theorem D372_47 {g : im_g} : im_D g 372 47 (.iaload) 48 := im_D.of (by decide +kernel)
theorem D372_48 {g : im_g} : im_D g 372 48 (.goto 11) 51 := im_D.of (by decide +kernel)
theorem D372_51 {g : im_g} : im_D g 372 51 (.aload_n 0) 52 := im_D.of (by decide +kernel)
theorem D372_52 {g : im_g} : im_D g 372 52 (.getfield 17) 55 := im_D.of (by decide +kernel)
theorem D372_55 {g : im_g} : im_D g 372 55 (.iload_n 2) 56 := im_D.of (by decide +kernel)
theorem D372_56 {g : im_g} : im_D g 372 56 (.iconst 1) 57 := im_D.of (by decide +kernel)
theorem D372_57 {g : im_g} : im_D g 372 57 (.iadd) 58 := im_D.of (by decide +kernel)
theorem D372_58 {g : im_g} : im_D g 372 58 (.iaload) 59 := im_D.of (by decide +kernel)
theorem D372_59 {g : im_g} : im_D g 372 59 (.istore 5) 61 := im_D.of (by decide +kernel)
theorem D372_61 {g : im_g} : im_D g 372 61 (.aload_n 0) 62 := im_D.of (by decide +kernel)
theorem D372_62 {g : im_g} : im_D g 372 62 (.getfield 449) 65 := im_D.of (by decide +kernel)
theorem D372_65 {g : im_g} : im_D g 372 65 (.istore 6) 67 := im_D.of (by decide +kernel)
theorem D372_67 {g : im_g} : im_D g 372 67 (.aload_n 0) 68 := im_D.of (by decide +kernel)
theorem D372_68 {g : im_g} : im_D g 372 68 (.getfield 17) 71 := im_D.of (by decide +kernel)
theorem D372_71 {g : im_g} : im_D g 372 71 (.iload_n 1) 72 := im_D.of (by decide +kernel)
theorem D372_72 {g : im_g} : im_D g 372 72 (.iaload) 73 := im_D.of (by decide +kernel)
theorem D372_73 {g : im_g} : im_D g 372 73 (.ifCond .eq 14) 76 := im_D.of (by decide +kernel)
theorem D372_76 {g : im_g} : im_D g 372 76 (.aload_n 0) 77 := im_D.of (by decide +kernel)
theorem D372_77 {g : im_g} : im_D g 372 77 (.getfield 17) 80 := im_D.of (by decide +kernel)
theorem D372_80 {g : im_g} : im_D g 372 80 (.iload_n 1) 81 := im_D.of (by decide +kernel)
theorem D372_81 {g : im_g} : im_D g 372 81 (.iaload) 82 := im_D.of (by decide +kernel)
theorem D372_82 {g : im_g} : im_D g 372 82 (.iload 4) 84 := im_D.of (by decide +kernel)
theorem D372_84 {g : im_g} : im_D g 372 84 (.if_icmp .ne 79) 87 := im_D.of (by decide +kernel)
theorem D372_87 {g : im_g} : im_D g 372 87 (.iconst 0) 88 := im_D.of (by decide +kernel)
theorem D372_88 {g : im_g} : im_D g 372 88 (.istore 7) 90 := im_D.of (by decide +kernel)
theorem D372_90 {g : im_g} : im_D g 372 90 (.iconst 0) 91 := im_D.of (by decide +kernel)
theorem D372_91 {g : im_g} : im_D g 372 91 (.istore 8) 93 := im_D.of (by decide +kernel)
theorem D372_93 {g : im_g} : im_D g 372 93 (.iload 8) 95 := im_D.of (by decide +kernel)
theorem D372_95 {g : im_g} : im_D g 372 95 (.iload 5) 97 := im_D.of (by decide +kernel)
theorem D372_97 {g : im_g} : im_D g 372 97 (.if_icmp .gt 53) 100 := im_D.of (by decide +kernel)
theorem D372_100 {g : im_g} : im_D g 372 100 (.aload_n 0) 101 := im_D.of (by decide +kernel)
theorem D372_101 {g : im_g} : im_D g 372 101 (.iload_n 1) 102 := im_D.of (by decide +kernel)
theorem D372_102 {g : im_g} : im_D g 372 102 (.iload 8) 104 := im_D.of (by decide +kernel)
theorem D372_104 {g : im_g} : im_D g 372 104 (.invokevirtual 463) 107 := im_D.of (by decide +kernel)
theorem D372_107 {g : im_g} : im_D g 372 107 (.aload_n 0) 108 := im_D.of (by decide +kernel)
theorem D372_108 {g : im_g} : im_D g 372 108 (.iload_n 2) 109 := im_D.of (by decide +kernel)
theorem D372_109 {g : im_g} : im_D g 372 109 (.iload 8) 111 := im_D.of (by decide +kernel)
theorem D372_111 {g : im_g} : im_D g 372 111 (.invokevirtual 463) 114 := im_D.of (by decide +kernel)
theorem D372_114 {g : im_g} : im_D g 372 114 (.iadd) 115 := im_D.of (by decide +kernel)
theorem D372_115 {g : im_g} : im_D g 372 115 (.iload 7) 117 := im_D.of (by decide +kernel)
theorem D372_117 {g : im_g} : im_D g 372 117 (.iadd) 118 := im_D.of (by decide +kernel)
theorem D372_118 {g : im_g} : im_D g 372 118 (.istore 9) 120 := im_D.of (by decide +kernel)
theorem D372_120 {g : im_g} : im_D g 372 120 (.aload_n 0) 121 := im_D.of (by decide +kernel)
theorem D372_121 {g : im_g} : im_D g 372 121 (.getfield 17) 124 := im_D.of (by decide +kernel)
theorem D372_124 {g : im_g} : im_D g 372 124 (.iload 6) 126 := im_D.of (by decide +kernel)
theorem D372_126 {g : im_g} : im_D g 372 126 (.iconst 2) 127 := im_D.of (by decide +kernel)
theorem D372_127 {g : im_g} : im_D g 372 127 (.iadd) 128 := im_D.of (by decide +kernel)
theorem D372_128 {g : im_g} : im_D g 372 128 (.iload 8) 130 := im_D.of (by decide +kernel)
theorem D372_130 {g : im_g} : im_D g 372 130 (.iadd) 131 := im_D.of (by decide +kernel)
theorem D372_131 {g : im_g} : im_D g 372 131 (.iload 9) 133 := im_D.of (by decide +kernel)
theorem D372_133 {g : im_g} : im_D g 372 133 (.bipush 10) 135 := im_D.of (by decide +kernel)
theorem D372_135 {g : im_g} : im_D g 372 135 (.irem) 136 := im_D.of (by decide +kernel)
theorem D372_136 {g : im_g} : im_D g 372 136 (.iastore) 137 := im_D.of (by decide +kernel)
theorem D372_137 {g : im_g} : im_D g 372 137 (.iload 9) 139 := im_D.of (by decide +kernel)
theorem D372_139 {g : im_g} : im_D g 372 139 (.bipush 10) 141 := im_D.of (by decide +kernel)
theorem D372_141 {g : im_g} : im_D g 372 141 (.idiv) 142 := im_D.of (by decide +kernel)
theorem D372_142 {g : im_g} : im_D g 372 142 (.istore 7) 144 := im_D.of (by decide +kernel)
theorem D372_144 {g : im_g} : im_D g 372 144 (.iinc 8 1) 147 := im_D.of (by decide +kernel)
theorem D372_147 {g : im_g} : im_D g 372 147 (.goto (-54)) 150 := im_D.of (by decide +kernel)
theorem D372_150 {g : im_g} : im_D g 372 150 (.aload_n 0) 151 := im_D.of (by decide +kernel)
theorem D372_151 {g : im_g} : im_D g 372 151 (.iload 6) 153 := im_D.of (by decide +kernel)
theorem D372_153 {g : im_g} : im_D g 372 153 (.iload 5) 155 := im_D.of (by decide +kernel)
theorem D372_155 {g : im_g} : im_D g 372 155 (.iconst 1) 156 := im_D.of (by decide +kernel)
theorem D372_156 {g : im_g} : im_D g 372 156 (.iadd) 157 := im_D.of (by decide +kernel)
theorem D372_157 {g : im_g} : im_D g 372 157 (.iload 4) 159 := im_D.of (by decide +kernel)
theorem D372_159 {g : im_g} : im_D g 372 159 (.invokevirtual 455) 162 := im_D.of (by decide +kernel)
theorem D372_162 {g : im_g} : im_D g 372 162 (.ireturn) 163 := im_D.of (by decide +kernel)
theorem D372_163 {g : im_g} : im_D g 372 163 (.aload_n 0) 164 := im_D.of (by decide +kernel)
theorem D372_164 {g : im_g} : im_D g 372 164 (.iload_n 1) 165 := im_D.of (by decide +kernel)
theorem D372_165 {g : im_g} : im_D g 372 165 (.iload_n 2) 166 := im_D.of (by decide +kernel)
theorem D372_166 {g : im_g} : im_D g 372 166 (.invokevirtual 467) 169 := im_D.of (by decide +kernel)
theorem D372_169 {g : im_g} : im_D g 372 169 (.ifCond .lt 7) 172 := im_D.of (by decide +kernel)
theorem D372_172 {g : im_g} : im_D g 372 172 (.iconst 1) 173 := im_D.of (by decide +kernel)
theorem D372_173 {g : im_g} : im_D g 372 173 (.goto 4) 176 := im_D.of (by decide +kernel)
theorem D372_176 {g : im_g} : im_D g 372 176 (.iconst 0) 177 := im_D.of (by decide +kernel)
theorem D372_177 {g : im_g} : im_D g 372 177 (.istore 7) 179 := im_D.of (by decide +kernel)
theorem D372_179 {g : im_g} : im_D g 372 179 (.iload 7) 181 := im_D.of (by decide +kernel)
theorem D372_181 {g : im_g} : im_D g 372 181 (.ifCond .eq 7) 184 := im_D.of (by decide +kernel)
theorem D372_184 {g : im_g} : im_D g 372 184 (.iload_n 1) 185 := im_D.of (by decide +kernel)
theorem D372_185 {g : im_g} : im_D g 372 185 (.goto 4) 188 := im_D.of (by decide +kernel)
theorem D372_188 {g : im_g} : im_D g 372 188 (.iload_n 2) 189 := im_D.of (by decide +kernel)
theorem D372_189 {g : im_g} : im_D g 372 189 (.istore 8) 191 := im_D.of (by decide +kernel)
theorem D372_191 {g : im_g} : im_D g 372 191 (.iload 7) 193 := im_D.of (by decide +kernel)
theorem D372_193 {g : im_g} : im_D g 372 193 (.ifCond .eq 7) 196 := im_D.of (by decide +kernel)
theorem D372_196 {g : im_g} : im_D g 372 196 (.iload_n 2) 197 := im_D.of (by decide +kernel)
theorem D372_197 {g : im_g} : im_D g 372 197 (.goto 4) 200 := im_D.of (by decide +kernel)
theorem D372_200 {g : im_g} : im_D g 372 200 (.iload_n 1) 201 := im_D.of (by decide +kernel)
theorem D372_201 {g : im_g} : im_D g 372 201 (.istore 9) 203 := im_D.of (by decide +kernel)
theorem D372_203 {g : im_g} : im_D g 372 203 (.iconst 0) 204 := im_D.of (by decide +kernel)
theorem D372_204 {g : im_g} : im_D g 372 204 (.istore 10) 206 := im_D.of (by decide +kernel)
theorem D372_206 {g : im_g} : im_D g 372 206 (.iconst 0) 207 := im_D.of (by decide +kernel)
theorem D372_207 {g : im_g} : im_D g 372 207 (.istore 11) 209 := im_D.of (by decide +kernel)
theorem D372_209 {g : im_g} : im_D g 372 209 (.iload 11) 211 := im_D.of (by decide +kernel)
theorem D372_211 {g : im_g} : im_D g 372 211 (.iload 5) 213 := im_D.of (by decide +kernel)
theorem D372_213 {g : im_g} : im_D g 372 213 (.if_icmp .ge 70) 216 := im_D.of (by decide +kernel)
theorem D372_216 {g : im_g} : im_D g 372 216 (.aload_n 0) 217 := im_D.of (by decide +kernel)
theorem D372_217 {g : im_g} : im_D g 372 217 (.iload 8) 219 := im_D.of (by decide +kernel)
theorem D372_219 {g : im_g} : im_D g 372 219 (.iload 11) 221 := im_D.of (by decide +kernel)
theorem D372_221 {g : im_g} : im_D g 372 221 (.invokevirtual 463) 224 := im_D.of (by decide +kernel)
theorem D372_224 {g : im_g} : im_D g 372 224 (.aload_n 0) 225 := im_D.of (by decide +kernel)
theorem D372_225 {g : im_g} : im_D g 372 225 (.iload 9) 227 := im_D.of (by decide +kernel)
theorem D372_227 {g : im_g} : im_D g 372 227 (.iload 11) 229 := im_D.of (by decide +kernel)
theorem D372_229 {g : im_g} : im_D g 372 229 (.invokevirtual 463) 232 := im_D.of (by decide +kernel)
theorem D372_232 {g : im_g} : im_D g 372 232 (.isub) 233 := im_D.of (by decide +kernel)
theorem D372_233 {g : im_g} : im_D g 372 233 (.iload 10) 235 := im_D.of (by decide +kernel)
theorem D372_235 {g : im_g} : im_D g 372 235 (.isub) 236 := im_D.of (by decide +kernel)
theorem D372_236 {g : im_g} : im_D g 372 236 (.istore 12) 238 := im_D.of (by decide +kernel)
theorem D372_238 {g : im_g} : im_D g 372 238 (.iload 12) 240 := im_D.of (by decide +kernel)
theorem D372_240 {g : im_g} : im_D g 372 240 (.ifCond .ge 7) 243 := im_D.of (by decide +kernel)
theorem D372_243 {g : im_g} : im_D g 372 243 (.iconst 1) 244 := im_D.of (by decide +kernel)
theorem D372_244 {g : im_g} : im_D g 372 244 (.goto 4) 247 := im_D.of (by decide +kernel)
theorem D372_247 {g : im_g} : im_D g 372 247 (.iconst 0) 248 := im_D.of (by decide +kernel)
theorem D372_248 {g : im_g} : im_D g 372 248 (.istore 10) 250 := im_D.of (by decide +kernel)
theorem D372_250 {g : im_g} : im_D g 372 250 (.aload_n 0) 251 := im_D.of (by decide +kernel)
theorem D372_251 {g : im_g} : im_D g 372 251 (.getfield 17) 254 := im_D.of (by decide +kernel)
theorem D372_254 {g : im_g} : im_D g 372 254 (.iload 6) 256 := im_D.of (by decide +kernel)
theorem D372_256 {g : im_g} : im_D g 372 256 (.iconst 2) 257 := im_D.of (by decide +kernel)
theorem D372_257 {g : im_g} : im_D g 372 257 (.iadd) 258 := im_D.of (by decide +kernel)
theorem D372_258 {g : im_g} : im_D g 372 258 (.iload 11) 260 := im_D.of (by decide +kernel)
theorem D372_260 {g : im_g} : im_D g 372 260 (.iadd) 261 := im_D.of (by decide +kernel)
theorem D372_261 {g : im_g} : im_D g 372 261 (.iload 12) 263 := im_D.of (by decide +kernel)
theorem D372_263 {g : im_g} : im_D g 372 263 (.ifCond .ge 11) 266 := im_D.of (by decide +kernel)
theorem D372_266 {g : im_g} : im_D g 372 266 (.iload 12) 268 := im_D.of (by decide +kernel)
theorem D372_268 {g : im_g} : im_D g 372 268 (.bipush 10) 270 := im_D.of (by decide +kernel)
theorem D372_270 {g : im_g} : im_D g 372 270 (.iadd) 271 := im_D.of (by decide +kernel)
theorem D372_271 {g : im_g} : im_D g 372 271 (.goto 5) 274 := im_D.of (by decide +kernel)
theorem D372_274 {g : im_g} : im_D g 372 274 (.iload 12) 276 := im_D.of (by decide +kernel)
theorem D372_276 {g : im_g} : im_D g 372 276 (.iastore) 277 := im_D.of (by decide +kernel)
theorem D372_277 {g : im_g} : im_D g 372 277 (.iinc 11 1) 280 := im_D.of (by decide +kernel)
theorem D372_280 {g : im_g} : im_D g 372 280 (.goto (-71)) 283 := im_D.of (by decide +kernel)
theorem D372_283 {g : im_g} : im_D g 372 283 (.aload_n 0) 284 := im_D.of (by decide +kernel)
theorem D372_284 {g : im_g} : im_D g 372 284 (.iload 6) 286 := im_D.of (by decide +kernel)
theorem D372_286 {g : im_g} : im_D g 372 286 (.iload 5) 288 := im_D.of (by decide +kernel)
theorem D372_288 {g : im_g} : im_D g 372 288 (.iload 7) 290 := im_D.of (by decide +kernel)
theorem D372_290 {g : im_g} : im_D g 372 290 (.ifCond .eq 12) 293 := im_D.of (by decide +kernel)
theorem D372_293 {g : im_g} : im_D g 372 293 (.aload_n 0) 294 := im_D.of (by decide +kernel)
theorem D372_294 {g : im_g} : im_D g 372 294 (.getfield 17) 297 := im_D.of (by decide +kernel)
theorem D372_297 {g : im_g} : im_D g 372 297 (.iload_n 1) 298 := im_D.of (by decide +kernel)
theorem D372_298 {g : im_g} : im_D g 372 298 (.iaload) 299 := im_D.of (by decide +kernel)
theorem D372_299 {g : im_g} : im_D g 372 299 (.goto 5) 302 := im_D.of (by decide +kernel)
theorem D372_302 {g : im_g} : im_D g 372 302 (.iload 4) 304 := im_D.of (by decide +kernel)
theorem D372_304 {g : im_g} : im_D g 372 304 (.invokevirtual 455) 307 := im_D.of (by decide +kernel)
theorem D372_307 {g : im_g} : im_D g 372 307 (.ireturn) 308 := im_D.of (by decide +kernel)
theorem D373_0 {g : im_g} : im_D g 373 0 (.aload_n 0) 1 := im_D.of (by decide +kernel)
theorem D373_1 {g : im_g} : im_D g 373 1 (.getfield 17) 4 := im_D.of (by decide +kernel)
theorem D373_4 {g : im_g} : im_D g 373 4 (.iload_n 1) 5 := im_D.of (by decide +kernel)
theorem D373_5 {g : im_g} : im_D g 373 5 (.iconst 1) 6 := im_D.of (by decide +kernel)
theorem D373_6 {g : im_g} : im_D g 373 6 (.iadd) 7 := im_D.of (by decide +kernel)
theorem D373_7 {g : im_g} : im_D g 373 7 (.iaload) 8 := im_D.of (by decide +kernel)
theorem D373_8 {g : im_g} : im_D g 373 8 (.istore_n 2) 9 := im_D.of (by decide +kernel)
theorem D373_9 {g : im_g} : im_D g 373 9 (.aload_n 0) 10 := im_D.of (by decide +kernel)
theorem D373_10 {g : im_g} : im_D g 373 10 (.getfield 449) 13 := im_D.of (by decide +kernel)
theorem D373_13 {g : im_g} : im_D g 373 13 (.istore_n 3) 14 := im_D.of (by decide +kernel)
theorem D373_14 {g : im_g} : im_D g 373 14 (.iconst 0) 15 := im_D.of (by decide +kernel)
theorem D373_15 {g : im_g} : im_D g 373 15 (.istore 4) 17 := im_D.of (by decide +kernel)
theorem D373_17 {g : im_g} : im_D g 373 17 (.iload 4) 19 := im_D.of (by decide +kernel)
theorem D373_19 {g : im_g} : im_D g 373 19 (.iload_n 2) 20 := im_D.of (by decide +kernel)
theorem D373_20 {g : im_g} : im_D g 373 20 (.iconst 2) 21 := im_D.of (by decide +kernel)
theorem D373_21 {g : im_g} : im_D g 373 21 (.iadd) 22 := im_D.of (by decide +kernel)
theorem D373_22 {g : im_g} : im_D g 373 22 (.if_icmp .ge 27) 25 := im_D.of (by decide +kernel)
theorem D373_25 {g : im_g} : im_D g 373 25 (.aload_n 0) 26 := im_D.of (by decide +kernel)
theorem D373_26 {g : im_g} : im_D g 373 26 (.getfield 17) 29 := im_D.of (by decide +kernel)
theorem D373_29 {g : im_g} : im_D g 373 29 (.iload_n 3) 30 := im_D.of (by decide +kernel)
theorem D373_30 {g : im_g} : im_D g 373 30 (.iload 4) 32 := im_D.of (by decide +kernel)
theorem D373_32 {g : im_g} : im_D g 373 32 (.iadd) 33 := im_D.of (by decide +kernel)
theorem D373_33 {g : im_g} : im_D g 373 33 (.aload_n 0) 34 := im_D.of (by decide +kernel)
theorem D373_34 {g : im_g} : im_D g 373 34 (.getfield 17) 37 := im_D.of (by decide +kernel)
theorem D373_37 {g : im_g} : im_D g 373 37 (.iload_n 1) 38 := im_D.of (by decide +kernel)
theorem D373_38 {g : im_g} : im_D g 373 38 (.iload 4) 40 := im_D.of (by decide +kernel)
theorem D373_40 {g : im_g} : im_D g 373 40 (.iadd) 41 := im_D.of (by decide +kernel)
theorem D373_41 {g : im_g} : im_D g 373 41 (.iaload) 42 := im_D.of (by decide +kernel)
theorem D373_42 {g : im_g} : im_D g 373 42 (.iastore) 43 := im_D.of (by decide +kernel)
theorem D373_43 {g : im_g} : im_D g 373 43 (.iinc 4 1) 46 := im_D.of (by decide +kernel)
theorem D373_46 {g : im_g} : im_D g 373 46 (.goto (-29)) 49 := im_D.of (by decide +kernel)
theorem D373_49 {g : im_g} : im_D g 373 49 (.aload_n 0) 50 := im_D.of (by decide +kernel)
theorem D373_50 {g : im_g} : im_D g 373 50 (.iload_n 3) 51 := im_D.of (by decide +kernel)
theorem D373_51 {g : im_g} : im_D g 373 51 (.iload_n 2) 52 := im_D.of (by decide +kernel)
theorem D373_52 {g : im_g} : im_D g 373 52 (.iadd) 53 := im_D.of (by decide +kernel)
theorem D373_53 {g : im_g} : im_D g 373 53 (.iconst 2) 54 := im_D.of (by decide +kernel)
theorem D373_54 {g : im_g} : im_D g 373 54 (.iadd) 55 := im_D.of (by decide +kernel)
theorem D373_55 {g : im_g} : im_D g 373 55 (.putfield 449) 58 := im_D.of (by decide +kernel)
theorem D373_58 {g : im_g} : im_D g 373 58 (.iload_n 3) 59 := im_D.of (by decide +kernel)
theorem D373_59 {g : im_g} : im_D g 373 59 (.ireturn) 60 := im_D.of (by decide +kernel)
theorem D386_0 {g : im_g} : im_D g 386 0 (.aload_n 0) 1 := im_D.of (by decide +kernel)
theorem D386_1 {g : im_g} : im_D g 386 1 (.getfield 449) 4 := im_D.of (by decide +kernel)
theorem D386_4 {g : im_g} : im_D g 386 4 (.istore_n 1) 5 := im_D.of (by decide +kernel)
theorem D386_5 {g : im_g} : im_D g 386 5 (.aload_n 0) 6 := im_D.of (by decide +kernel)
theorem D386_6 {g : im_g} : im_D g 386 6 (.getfield 17) 9 := im_D.of (by decide +kernel)
theorem D386_9 {g : im_g} : im_D g 386 9 (.iload_n 1) 10 := im_D.of (by decide +kernel)
theorem D386_10 {g : im_g} : im_D g 386 10 (.iconst 0) 11 := im_D.of (by decide +kernel)
theorem D386_11 {g : im_g} : im_D g 386 11 (.iastore) 12 := im_D.of (by decide +kernel)
theorem D386_12 {g : im_g} : im_D g 386 12 (.aload_n 0) 13 := im_D.of (by decide +kernel)
theorem D386_13 {g : im_g} : im_D g 386 13 (.getfield 17) 16 := im_D.of (by decide +kernel)
theorem D386_16 {g : im_g} : im_D g 386 16 (.iload_n 1) 17 := im_D.of (by decide +kernel)
theorem D386_17 {g : im_g} : im_D g 386 17 (.iconst 1) 18 := im_D.of (by decide +kernel)
theorem D386_18 {g : im_g} : im_D g 386 18 (.iadd) 19 := im_D.of (by decide +kernel)
theorem D386_19 {g : im_g} : im_D g 386 19 (.iconst 0) 20 := im_D.of (by decide +kernel)
theorem D386_20 {g : im_g} : im_D g 386 20 (.iastore) 21 := im_D.of (by decide +kernel)
theorem D386_21 {g : im_g} : im_D g 386 21 (.aload_n 0) 22 := im_D.of (by decide +kernel)
theorem D386_22 {g : im_g} : im_D g 386 22 (.dup) 23 := im_D.of (by decide +kernel)
theorem D386_23 {g : im_g} : im_D g 386 23 (.getfield 449) 26 := im_D.of (by decide +kernel)
theorem D386_26 {g : im_g} : im_D g 386 26 (.iconst 2) 27 := im_D.of (by decide +kernel)
theorem D386_27 {g : im_g} : im_D g 386 27 (.iadd) 28 := im_D.of (by decide +kernel)
theorem D386_28 {g : im_g} : im_D g 386 28 (.putfield 449) 31 := im_D.of (by decide +kernel)
theorem D386_31 {g : im_g} : im_D g 386 31 (.iload_n 1) 32 := im_D.of (by decide +kernel)
theorem D386_32 {g : im_g} : im_D g 386 32 (.ireturn) 33 := im_D.of (by decide +kernel)
theorem D391_0 {g : im_g} : im_D g 391 0 (.aload_n 0) 1 := im_D.of (by decide +kernel)
theorem D391_1 {g : im_g} : im_D g 391 1 (.getfield 449) 4 := im_D.of (by decide +kernel)
theorem D391_4 {g : im_g} : im_D g 391 4 (.istore_n 3) 5 := im_D.of (by decide +kernel)
theorem D391_5 {g : im_g} : im_D g 391 5 (.iconst 0) 6 := im_D.of (by decide +kernel)
theorem D391_6 {g : im_g} : im_D g 391 6 (.istore 4) 8 := im_D.of (by decide +kernel)
theorem D391_8 {g : im_g} : im_D g 391 8 (.lload_n 1) 9 := im_D.of (by decide +kernel)
theorem D391_9 {g : im_g} : im_D g 391 9 (.lstore 5) 11 := im_D.of (by decide +kernel)
theorem D391_11 {g : im_g} : im_D g 391 11 (.lload 5) 13 := im_D.of (by decide +kernel)
theorem D391_13 {g : im_g} : im_D g 391 13 (.lconst 0) 14 := im_D.of (by decide +kernel)
theorem D391_14 {g : im_g} : im_D g 391 14 (.lcmp) 15 := im_D.of (by decide +kernel)
theorem D391_15 {g : im_g} : im_D g 391 15 (.ifCond .le 35) 18 := im_D.of (by decide +kernel)
theorem D391_18 {g : im_g} : im_D g 391 18 (.aload_n 0) 19 := im_D.of (by decide +kernel)
theorem D391_19 {g : im_g} : im_D g 391 19 (.getfield 17) 22 := im_D.of (by decide +kernel)
theorem D391_22 {g : im_g} : im_D g 391 22 (.iload_n 3) 23 := im_D.of (by decide +kernel)
theorem D391_23 {g : im_g} : im_D g 391 23 (.iconst 2) 24 := im_D.of (by decide +kernel)
theorem D391_24 {g : im_g} : im_D g 391 24 (.iadd) 25 := im_D.of (by decide +kernel)
theorem D391_25 {g : im_g} : im_D g 391 25 (.iload 4) 27 := im_D.of (by decide +kernel)
theorem D391_27 {g : im_g} : im_D g 391 27 (.iadd) 28 := im_D.of (by decide +kernel)
theorem D391_28 {g : im_g} : im_D g 391 28 (.lload 5) 30 := im_D.of (by decide +kernel)
theorem D391_30 {g : im_g} : im_D g 391 30 (.ldc2_w 447) 33 := im_D.of (by decide +kernel)
theorem D391_33 {g : im_g} : im_D g 391 33 (.lrem) 34 := im_D.of (by decide +kernel)
theorem D391_34 {g : im_g} : im_D g 391 34 (.l2i) 35 := im_D.of (by decide +kernel)
theorem D391_35 {g : im_g} : im_D g 391 35 (.iastore) 36 := im_D.of (by decide +kernel)
theorem D391_36 {g : im_g} : im_D g 391 36 (.iinc 4 1) 39 := im_D.of (by decide +kernel)
theorem D391_39 {g : im_g} : im_D g 391 39 (.lload 5) 41 := im_D.of (by decide +kernel)
theorem D391_41 {g : im_g} : im_D g 391 41 (.ldc2_w 447) 44 := im_D.of (by decide +kernel)
theorem D391_44 {g : im_g} : im_D g 391 44 (.ldiv) 45 := im_D.of (by decide +kernel)
theorem D391_45 {g : im_g} : im_D g 391 45 (.lstore 5) 47 := im_D.of (by decide +kernel)
theorem D391_47 {g : im_g} : im_D g 391 47 (.goto (-36)) 50 := im_D.of (by decide +kernel)
theorem D391_50 {g : im_g} : im_D g 391 50 (.aload_n 0) 51 := im_D.of (by decide +kernel)
theorem D391_51 {g : im_g} : im_D g 391 51 (.iload_n 3) 52 := im_D.of (by decide +kernel)
theorem D391_52 {g : im_g} : im_D g 391 52 (.iload 4) 54 := im_D.of (by decide +kernel)
theorem D391_54 {g : im_g} : im_D g 391 54 (.iconst 1) 55 := im_D.of (by decide +kernel)
theorem D391_55 {g : im_g} : im_D g 391 55 (.invokevirtual 455) 58 := im_D.of (by decide +kernel)
theorem D391_58 {g : im_g} : im_D g 391 58 (.ireturn) 59 := im_D.of (by decide +kernel)
theorem D393_0 {g : im_g} : im_D g 393 0 (.aload_n 0) 1 := im_D.of (by decide +kernel)
theorem D393_1 {g : im_g} : im_D g 393 1 (.iload_n 1) 2 := im_D.of (by decide +kernel)
theorem D393_2 {g : im_g} : im_D g 393 2 (.invokevirtual 470) 5 := im_D.of (by decide +kernel)
theorem D393_5 {g : im_g} : im_D g 393 5 (.istore_n 2) 6 := im_D.of (by decide +kernel)
theorem D393_6 {g : im_g} : im_D g 393 6 (.aload_n 0) 7 := im_D.of (by decide +kernel)
theorem D393_7 {g : im_g} : im_D g 393 7 (.getfield 17) 10 := im_D.of (by decide +kernel)
theorem D393_10 {g : im_g} : im_D g 393 10 (.iload_n 2) 11 := im_D.of (by decide +kernel)
theorem D393_11 {g : im_g} : im_D g 393 11 (.aload_n 0) 12 := im_D.of (by decide +kernel)
theorem D393_12 {g : im_g} : im_D g 393 12 (.getfield 17) 15 := im_D.of (by decide +kernel)
theorem D393_15 {g : im_g} : im_D g 393 15 (.iload_n 2) 16 := im_D.of (by decide +kernel)
theorem D393_16 {g : im_g} : im_D g 393 16 (.iaload) 17 := im_D.of (by decide +kernel)
theorem D393_17 {g : im_g} : im_D g 393 17 (.ineg) 18 := im_D.of (by decide +kernel)
theorem D393_18 {g : im_g} : im_D g 393 18 (.iastore) 19 := im_D.of (by decide +kernel)
theorem D393_19 {g : im_g} : im_D g 393 19 (.iload_n 2) 20 := im_D.of (by decide +kernel)
theorem D393_20 {g : im_g} : im_D g 393 20 (.ireturn) 21 := im_D.of (by decide +kernel)
theorem D395_0 {g : im_g} : im_D g 395 0 (.aload_n 0) 1 := im_D.of (by decide +kernel)
theorem D395_1 {g : im_g} : im_D g 395 1 (.iload_n 1) 2 := im_D.of (by decide +kernel)
theorem D395_2 {g : im_g} : im_D g 395 2 (.aload_n 0) 3 := im_D.of (by decide +kernel)
theorem D395_3 {g : im_g} : im_D g 395 3 (.getfield 20) 6 := im_D.of (by decide +kernel)
theorem D395_6 {g : im_g} : im_D g 395 6 (.invokevirtual 474) 9 := im_D.of (by decide +kernel)
theorem D395_9 {g : im_g} : im_D g 395 9 (.istore_n 3) 10 := im_D.of (by decide +kernel)
theorem D395_10 {g : im_g} : im_D g 395 10 (.aload_n 0) 11 := im_D.of (by decide +kernel)
theorem D395_11 {g : im_g} : im_D g 395 11 (.iload_n 2) 12 := im_D.of (by decide +kernel)
theorem D395_12 {g : im_g} : im_D g 395 12 (.aload_n 0) 13 := im_D.of (by decide +kernel)
theorem D395_13 {g : im_g} : im_D g 395 13 (.getfield 24) 16 := im_D.of (by decide +kernel)
theorem D395_16 {g : im_g} : im_D g 395 16 (.invokevirtual 474) 19 := im_D.of (by decide +kernel)
theorem D395_19 {g : im_g} : im_D g 395 19 (.istore 4) 21 := im_D.of (by decide +kernel)
theorem D395_21 {g : im_g} : im_D g 395 21 (.iconst 0) 22 := im_D.of (by decide +kernel)
theorem D395_22 {g : im_g} : im_D g 395 22 (.istore 5) 24 := im_D.of (by decide +kernel)
theorem D395_24 {g : im_g} : im_D g 395 24 (.iload 5) 26 := im_D.of (by decide +kernel)
theorem D395_26 {g : im_g} : im_D g 395 26 (.iload_n 3) 27 := im_D.of (by decide +kernel)
theorem D395_27 {g : im_g} : im_D g 395 27 (.iload 4) 29 := im_D.of (by decide +kernel)
theorem D395_29 {g : im_g} : im_D g 395 29 (.iadd) 30 := im_D.of (by decide +kernel)
theorem D395_30 {g : im_g} : im_D g 395 30 (.if_icmp .ge 17) 33 := im_D.of (by decide +kernel)
theorem D395_33 {g : im_g} : im_D g 395 33 (.aload_n 0) 34 := im_D.of (by decide +kernel)
theorem D395_34 {g : im_g} : im_D g 395 34 (.getfield 27) 37 := im_D.of (by decide +kernel)
theorem D395_37 {g : im_g} : im_D g 395 37 (.iload 5) 39 := im_D.of (by decide +kernel)
theorem D395_39 {g : im_g} : im_D g 395 39 (.lconst 0) 40 := im_D.of (by decide +kernel)
theorem D395_40 {g : im_g} : im_D g 395 40 (.lastore) 41 := im_D.of (by decide +kernel)
theorem D395_41 {g : im_g} : im_D g 395 41 (.iinc 5 1) 44 := im_D.of (by decide +kernel)
theorem D395_44 {g : im_g} : im_D g 395 44 (.goto (-20)) 47 := im_D.of (by decide +kernel)
theorem D395_47 {g : im_g} : im_D g 395 47 (.iconst 0) 48 := im_D.of (by decide +kernel)
theorem D395_48 {g : im_g} : im_D g 395 48 (.istore 5) 50 := im_D.of (by decide +kernel)
theorem D395_50 {g : im_g} : im_D g 395 50 (.iload 5) 52 := im_D.of (by decide +kernel)
theorem D395_52 {g : im_g} : im_D g 395 52 (.iload_n 3) 53 := im_D.of (by decide +kernel)
theorem D395_53 {g : im_g} : im_D g 395 53 (.if_icmp .ge 95) 56 := im_D.of (by decide +kernel)
theorem D395_56 {g : im_g} : im_D g 395 56 (.lconst 0) 57 := im_D.of (by decide +kernel)
theorem D395_57 {g : im_g} : im_D g 395 57 (.lstore 6) 59 := im_D.of (by decide +kernel)
theorem D395_59 {g : im_g} : im_D g 395 59 (.iconst 0) 60 := im_D.of (by decide +kernel)
theorem D395_60 {g : im_g} : im_D g 395 60 (.istore 8) 62 := im_D.of (by decide +kernel)
theorem D395_62 {g : im_g} : im_D g 395 62 (.iload 8) 64 := im_D.of (by decide +kernel)
theorem D395_64 {g : im_g} : im_D g 395 64 (.iload 4) 66 := im_D.of (by decide +kernel)
theorem D395_66 {g : im_g} : im_D g 395 66 (.if_icmp .ge 64) 69 := im_D.of (by decide +kernel)
theorem D395_69 {g : im_g} : im_D g 395 69 (.aload_n 0) 70 := im_D.of (by decide +kernel)
theorem D395_70 {g : im_g} : im_D g 395 70 (.getfield 27) 73 := im_D.of (by decide +kernel)
theorem D395_73 {g : im_g} : im_D g 395 73 (.iload 5) 75 := im_D.of (by decide +kernel)
theorem D395_75 {g : im_g} : im_D g 395 75 (.iload 8) 77 := im_D.of (by decide +kernel)
theorem D395_77 {g : im_g} : im_D g 395 77 (.iadd) 78 := im_D.of (by decide +kernel)
theorem D395_78 {g : im_g} : im_D g 395 78 (.laload) 79 := im_D.of (by decide +kernel)
theorem D395_79 {g : im_g} : im_D g 395 79 (.aload_n 0) 80 := im_D.of (by decide +kernel)
theorem D395_80 {g : im_g} : im_D g 395 80 (.getfield 20) 83 := im_D.of (by decide +kernel)
theorem D395_83 {g : im_g} : im_D g 395 83 (.iload 5) 85 := im_D.of (by decide +kernel)
theorem D395_85 {g : im_g} : im_D g 395 85 (.laload) 86 := im_D.of (by decide +kernel)
theorem D395_86 {g : im_g} : im_D g 395 86 (.aload_n 0) 87 := im_D.of (by decide +kernel)
theorem D395_87 {g : im_g} : im_D g 395 87 (.getfield 24) 90 := im_D.of (by decide +kernel)
theorem D395_90 {g : im_g} : im_D g 395 90 (.iload 8) 92 := im_D.of (by decide +kernel)
theorem D395_92 {g : im_g} : im_D g 395 92 (.laload) 93 := im_D.of (by decide +kernel)
theorem D395_93 {g : im_g} : im_D g 395 93 (.lmul) 94 := im_D.of (by decide +kernel)
theorem D395_94 {g : im_g} : im_D g 395 94 (.ladd) 95 := im_D.of (by decide +kernel)
theorem D395_95 {g : im_g} : im_D g 395 95 (.lload 6) 97 := im_D.of (by decide +kernel)
theorem D395_97 {g : im_g} : im_D g 395 97 (.ladd) 98 := im_D.of (by decide +kernel)
theorem D395_98 {g : im_g} : im_D g 395 98 (.lstore 9) 100 := im_D.of (by decide +kernel)
theorem D395_100 {g : im_g} : im_D g 395 100 (.aload_n 0) 101 := im_D.of (by decide +kernel)
theorem D395_101 {g : im_g} : im_D g 395 101 (.getfield 27) 104 := im_D.of (by decide +kernel)
theorem D395_104 {g : im_g} : im_D g 395 104 (.iload 5) 106 := im_D.of (by decide +kernel)
theorem D395_106 {g : im_g} : im_D g 395 106 (.iload 8) 108 := im_D.of (by decide +kernel)
theorem D395_108 {g : im_g} : im_D g 395 108 (.iadd) 109 := im_D.of (by decide +kernel)
theorem D395_109 {g : im_g} : im_D g 395 109 (.lload 9) 111 := im_D.of (by decide +kernel)
theorem D395_111 {g : im_g} : im_D g 395 111 (.ldc2_w 478) 114 := im_D.of (by decide +kernel)
theorem D395_114 {g : im_g} : im_D g 395 114 (.lrem) 115 := im_D.of (by decide +kernel)
theorem D395_115 {g : im_g} : im_D g 395 115 (.lastore) 116 := im_D.of (by decide +kernel)
theorem D395_116 {g : im_g} : im_D g 395 116 (.lload 9) 118 := im_D.of (by decide +kernel)
theorem D395_118 {g : im_g} : im_D g 395 118 (.ldc2_w 478) 121 := im_D.of (by decide +kernel)
theorem D395_121 {g : im_g} : im_D g 395 121 (.ldiv) 122 := im_D.of (by decide +kernel)
theorem D395_122 {g : im_g} : im_D g 395 122 (.lstore 6) 124 := im_D.of (by decide +kernel)
theorem D395_124 {g : im_g} : im_D g 395 124 (.iinc 8 1) 127 := im_D.of (by decide +kernel)
theorem D395_127 {g : im_g} : im_D g 395 127 (.goto (-65)) 130 := im_D.of (by decide +kernel)
theorem D395_130 {g : im_g} : im_D g 395 130 (.aload_n 0) 131 := im_D.of (by decide +kernel)
theorem D395_131 {g : im_g} : im_D g 395 131 (.getfield 27) 134 := im_D.of (by decide +kernel)
theorem D395_134 {g : im_g} : im_D g 395 134 (.iload 5) 136 := im_D.of (by decide +kernel)
theorem D395_136 {g : im_g} : im_D g 395 136 (.iload 4) 138 := im_D.of (by decide +kernel)
theorem D395_138 {g : im_g} : im_D g 395 138 (.iadd) 139 := im_D.of (by decide +kernel)
theorem D395_139 {g : im_g} : im_D g 395 139 (.lload 6) 141 := im_D.of (by decide +kernel)
theorem D395_141 {g : im_g} : im_D g 395 141 (.lastore) 142 := im_D.of (by decide +kernel)
theorem D395_142 {g : im_g} : im_D g 395 142 (.iinc 5 1) 145 := im_D.of (by decide +kernel)
theorem D395_145 {g : im_g} : im_D g 395 145 (.goto (-95)) 148 := im_D.of (by decide +kernel)
theorem D395_148 {g : im_g} : im_D g 395 148 (.aload_n 0) 149 := im_D.of (by decide +kernel)
theorem D395_149 {g : im_g} : im_D g 395 149 (.getfield 449) 152 := im_D.of (by decide +kernel)
theorem D395_152 {g : im_g} : im_D g 395 152 (.istore 5) 154 := im_D.of (by decide +kernel)
theorem D395_154 {g : im_g} : im_D g 395 154 (.aload_n 0) 155 := im_D.of (by decide +kernel)
theorem D395_155 {g : im_g} : im_D g 395 155 (.iload 5) 157 := im_D.of (by decide +kernel)
theorem D395_157 {g : im_g} : im_D g 395 157 (.iload_n 3) 158 := im_D.of (by decide +kernel)
theorem D395_158 {g : im_g} : im_D g 395 158 (.iload 4) 160 := im_D.of (by decide +kernel)
theorem D395_160 {g : im_g} : im_D g 395 160 (.iadd) 161 := im_D.of (by decide +kernel)
theorem D395_161 {g : im_g} : im_D g 395 161 (.invokevirtual 480) 164 := im_D.of (by decide +kernel)
theorem D395_164 {g : im_g} : im_D g 395 164 (.aload_n 0) 165 := im_D.of (by decide +kernel)
theorem D395_165 {g : im_g} : im_D g 395 165 (.iload 5) 167 := im_D.of (by decide +kernel)
theorem D395_167 {g : im_g} : im_D g 395 167 (.bipush 9) 169 := im_D.of (by decide +kernel)
theorem D395_169 {g : im_g} : im_D g 395 169 (.iload_n 3) 170 := im_D.of (by decide +kernel)
theorem D395_170 {g : im_g} : im_D g 395 170 (.iload 4) 172 := im_D.of (by decide +kernel)
theorem D395_172 {g : im_g} : im_D g 395 172 (.iadd) 173 := im_D.of (by decide +kernel)
theorem D395_173 {g : im_g} : im_D g 395 173 (.imul) 174 := im_D.of (by decide +kernel)
theorem D395_174 {g : im_g} : im_D g 395 174 (.aload_n 0) 175 := im_D.of (by decide +kernel)
theorem D395_175 {g : im_g} : im_D g 395 175 (.getfield 17) 178 := im_D.of (by decide +kernel)
theorem D395_178 {g : im_g} : im_D g 395 178 (.iload_n 1) 179 := im_D.of (by decide +kernel)
theorem D395_179 {g : im_g} : im_D g 395 179 (.iaload) 180 := im_D.of (by decide +kernel)
theorem D395_180 {g : im_g} : im_D g 395 180 (.aload_n 0) 181 := im_D.of (by decide +kernel)
theorem D395_181 {g : im_g} : im_D g 395 181 (.getfield 17) 184 := im_D.of (by decide +kernel)
theorem D395_184 {g : im_g} : im_D g 395 184 (.iload_n 2) 185 := im_D.of (by decide +kernel)
theorem D395_185 {g : im_g} : im_D g 395 185 (.iaload) 186 := im_D.of (by decide +kernel)
theorem D395_186 {g : im_g} : im_D g 395 186 (.imul) 187 := im_D.of (by decide +kernel)
theorem D395_187 {g : im_g} : im_D g 395 187 (.invokevirtual 455) 190 := im_D.of (by decide +kernel)
theorem D395_190 {g : im_g} : im_D g 395 190 (.ireturn) 191 := im_D.of (by decide +kernel)
theorem D396_0 {g : im_g} : im_D g 396 0 (.aload_n 0) 1 := im_D.of (by decide +kernel)
theorem D396_1 {g : im_g} : im_D g 396 1 (.getfield 17) 4 := im_D.of (by decide +kernel)
theorem D396_4 {g : im_g} : im_D g 396 4 (.iload_n 1) 5 := im_D.of (by decide +kernel)
theorem D396_5 {g : im_g} : im_D g 396 5 (.iconst 1) 6 := im_D.of (by decide +kernel)
theorem D396_6 {g : im_g} : im_D g 396 6 (.iadd) 7 := im_D.of (by decide +kernel)
theorem D396_7 {g : im_g} : im_D g 396 7 (.iaload) 8 := im_D.of (by decide +kernel)
theorem D396_8 {g : im_g} : im_D g 396 8 (.bipush 8) 10 := im_D.of (by decide +kernel)
theorem D396_10 {g : im_g} : im_D g 396 10 (.iadd) 11 := im_D.of (by decide +kernel)
theorem D396_11 {g : im_g} : im_D g 396 11 (.bipush 9) 13 := im_D.of (by decide +kernel)
theorem D396_13 {g : im_g} : im_D g 396 13 (.idiv) 14 := im_D.of (by decide +kernel)
theorem D396_14 {g : im_g} : im_D g 396 14 (.istore_n 3) 15 := im_D.of (by decide +kernel)
theorem D396_15 {g : im_g} : im_D g 396 15 (.iconst 0) 16 := im_D.of (by decide +kernel)
theorem D396_16 {g : im_g} : im_D g 396 16 (.istore 4) 18 := im_D.of (by decide +kernel)
theorem D396_18 {g : im_g} : im_D g 396 18 (.iload 4) 20 := im_D.of (by decide +kernel)
theorem D396_20 {g : im_g} : im_D g 396 20 (.iload_n 3) 21 := im_D.of (by decide +kernel)
theorem D396_21 {g : im_g} : im_D g 396 21 (.if_icmp .ge 56) 24 := im_D.of (by decide +kernel)
theorem D396_24 {g : im_g} : im_D g 396 24 (.lconst 0) 25 := im_D.of (by decide +kernel)
theorem D396_25 {g : im_g} : im_D g 396 25 (.lstore 5) 27 := im_D.of (by decide +kernel)
theorem D396_27 {g : im_g} : im_D g 396 27 (.bipush 8) 29 := im_D.of (by decide +kernel)
theorem D396_29 {g : im_g} : im_D g 396 29 (.istore 7) 31 := im_D.of (by decide +kernel)
theorem D396_31 {g : im_g} : im_D g 396 31 (.iload 7) 33 := im_D.of (by decide +kernel)
theorem D396_33 {g : im_g} : im_D g 396 33 (.ifCond .lt 32) 36 := im_D.of (by decide +kernel)
theorem D396_36 {g : im_g} : im_D g 396 36 (.ldc2_w 447) 39 := im_D.of (by decide +kernel)
theorem D396_39 {g : im_g} : im_D g 396 39 (.lload 5) 41 := im_D.of (by decide +kernel)
theorem D396_41 {g : im_g} : im_D g 396 41 (.lmul) 42 := im_D.of (by decide +kernel)
theorem D396_42 {g : im_g} : im_D g 396 42 (.aload_n 0) 43 := im_D.of (by decide +kernel)
theorem D396_43 {g : im_g} : im_D g 396 43 (.iload_n 1) 44 := im_D.of (by decide +kernel)
theorem D396_44 {g : im_g} : im_D g 396 44 (.bipush 9) 46 := im_D.of (by decide +kernel)
theorem D396_46 {g : im_g} : im_D g 396 46 (.iload 4) 48 := im_D.of (by decide +kernel)
theorem D396_48 {g : im_g} : im_D g 396 48 (.imul) 49 := im_D.of (by decide +kernel)
theorem D396_49 {g : im_g} : im_D g 396 49 (.iload 7) 51 := im_D.of (by decide +kernel)
theorem D396_51 {g : im_g} : im_D g 396 51 (.iadd) 52 := im_D.of (by decide +kernel)
theorem D396_52 {g : im_g} : im_D g 396 52 (.invokevirtual 463) 55 := im_D.of (by decide +kernel)
theorem D396_55 {g : im_g} : im_D g 396 55 (.i2l) 56 := im_D.of (by decide +kernel)
theorem D396_56 {g : im_g} : im_D g 396 56 (.ladd) 57 := im_D.of (by decide +kernel)
theorem D396_57 {g : im_g} : im_D g 396 57 (.lstore 5) 59 := im_D.of (by decide +kernel)
theorem D396_59 {g : im_g} : im_D g 396 59 (.iinc 7 (-1)) 62 := im_D.of (by decide +kernel)
theorem D396_62 {g : im_g} : im_D g 396 62 (.goto (-31)) 65 := im_D.of (by decide +kernel)
theorem D396_65 {g : im_g} : im_D g 396 65 (.aload_n 2) 66 := im_D.of (by decide +kernel)
theorem D396_66 {g : im_g} : im_D g 396 66 (.iload 4) 68 := im_D.of (by decide +kernel)
theorem D396_68 {g : im_g} : im_D g 396 68 (.lload 5) 70 := im_D.of (by decide +kernel)
theorem D396_70 {g : im_g} : im_D g 396 70 (.lastore) 71 := im_D.of (by decide +kernel)
theorem D396_71 {g : im_g} : im_D g 396 71 (.iinc 4 1) 74 := im_D.of (by decide +kernel)
theorem D396_74 {g : im_g} : im_D g 396 74 (.goto (-56)) 77 := im_D.of (by decide +kernel)
theorem D396_77 {g : im_g} : im_D g 396 77 (.aload_n 2) 78 := im_D.of (by decide +kernel)
theorem D396_78 {g : im_g} : im_D g 396 78 (.iload_n 3) 79 := im_D.of (by decide +kernel)
theorem D396_79 {g : im_g} : im_D g 396 79 (.lconst 0) 80 := im_D.of (by decide +kernel)
theorem D396_80 {g : im_g} : im_D g 396 80 (.lastore) 81 := im_D.of (by decide +kernel)
theorem D396_81 {g : im_g} : im_D g 396 81 (.iload_n 3) 82 := im_D.of (by decide +kernel)
theorem D396_82 {g : im_g} : im_D g 396 82 (.ireturn) 83 := im_D.of (by decide +kernel)
theorem D397_0 {g : im_g} : im_D g 397 0 (.iconst 0) 1 := im_D.of (by decide +kernel)
theorem D397_1 {g : im_g} : im_D g 397 1 (.istore_n 3) 2 := im_D.of (by decide +kernel)
theorem D397_2 {g : im_g} : im_D g 397 2 (.iload_n 3) 3 := im_D.of (by decide +kernel)
theorem D397_3 {g : im_g} : im_D g 397 3 (.bipush 9) 5 := im_D.of (by decide +kernel)
theorem D397_5 {g : im_g} : im_D g 397 5 (.iload_n 2) 6 := im_D.of (by decide +kernel)
theorem D397_6 {g : im_g} : im_D g 397 6 (.imul) 7 := im_D.of (by decide +kernel)
theorem D397_7 {g : im_g} : im_D g 397 7 (.if_icmp .ge 55) 10 := im_D.of (by decide +kernel)
theorem D397_10 {g : im_g} : im_D g 397 10 (.aload_n 0) 11 := im_D.of (by decide +kernel)
theorem D397_11 {g : im_g} : im_D g 397 11 (.getfield 17) 14 := im_D.of (by decide +kernel)
theorem D397_14 {g : im_g} : im_D g 397 14 (.iload_n 1) 15 := im_D.of (by decide +kernel)
theorem D397_15 {g : im_g} : im_D g 397 15 (.iconst 2) 16 := im_D.of (by decide +kernel)
theorem D397_16 {g : im_g} : im_D g 397 16 (.iadd) 17 := im_D.of (by decide +kernel)
theorem D397_17 {g : im_g} : im_D g 397 17 (.iload_n 3) 18 := im_D.of (by decide +kernel)
theorem D397_18 {g : im_g} : im_D g 397 18 (.iadd) 19 := im_D.of (by decide +kernel)
theorem D397_19 {g : im_g} : im_D g 397 19 (.aload_n 0) 20 := im_D.of (by decide +kernel)
theorem D397_20 {g : im_g} : im_D g 397 20 (.getfield 27) 23 := im_D.of (by decide +kernel)
theorem D397_23 {g : im_g} : im_D g 397 23 (.iload_n 3) 24 := im_D.of (by decide +kernel)
theorem D397_24 {g : im_g} : im_D g 397 24 (.bipush 9) 26 := im_D.of (by decide +kernel)
theorem D397_26 {g : im_g} : im_D g 397 26 (.idiv) 27 := im_D.of (by decide +kernel)
theorem D397_27 {g : im_g} : im_D g 397 27 (.laload) 28 := im_D.of (by decide +kernel)
theorem D397_28 {g : im_g} : im_D g 397 28 (.ldc2_w 447) 31 := im_D.of (by decide +kernel)
theorem D397_31 {g : im_g} : im_D g 397 31 (.lrem) 32 := im_D.of (by decide +kernel)
theorem D397_32 {g : im_g} : im_D g 397 32 (.l2i) 33 := im_D.of (by decide +kernel)
theorem D397_33 {g : im_g} : im_D g 397 33 (.iastore) 34 := im_D.of (by decide +kernel)
theorem D397_34 {g : im_g} : im_D g 397 34 (.aload_n 0) 35 := im_D.of (by decide +kernel)
theorem D397_35 {g : im_g} : im_D g 397 35 (.getfield 27) 38 := im_D.of (by decide +kernel)
theorem D397_38 {g : im_g} : im_D g 397 38 (.iload_n 3) 39 := im_D.of (by decide +kernel)
theorem D397_39 {g : im_g} : im_D g 397 39 (.bipush 9) 41 := im_D.of (by decide +kernel)
theorem D397_41 {g : im_g} : im_D g 397 41 (.idiv) 42 := im_D.of (by decide +kernel)
theorem D397_42 {g : im_g} : im_D g 397 42 (.aload_n 0) 43 := im_D.of (by decide +kernel)
theorem D397_43 {g : im_g} : im_D g 397 43 (.getfield 27) 46 := im_D.of (by decide +kernel)
theorem D397_46 {g : im_g} : im_D g 397 46 (.iload_n 3) 47 := im_D.of (by decide +kernel)
theorem D397_47 {g : im_g} : im_D g 397 47 (.bipush 9) 49 := im_D.of (by decide +kernel)
theorem D397_49 {g : im_g} : im_D g 397 49 (.idiv) 50 := im_D.of (by decide +kernel)
theorem D397_50 {g : im_g} : im_D g 397 50 (.laload) 51 := im_D.of (by decide +kernel)
theorem D397_51 {g : im_g} : im_D g 397 51 (.ldc2_w 447) 54 := im_D.of (by decide +kernel)
theorem D397_54 {g : im_g} : im_D g 397 54 (.ldiv) 55 := im_D.of (by decide +kernel)
theorem D397_55 {g : im_g} : im_D g 397 55 (.lastore) 56 := im_D.of (by decide +kernel)
theorem D397_56 {g : im_g} : im_D g 397 56 (.iinc 3 1) 59 := im_D.of (by decide +kernel)
theorem D397_59 {g : im_g} : im_D g 397 59 (.goto (-57)) 62 := im_D.of (by decide +kernel)
theorem D397_62 {g : im_g} : im_D g 397 62 (.return_) 63 := im_D.of (by decide +kernel)
theorem D398_0 {g : im_g} : im_D g 398 0 (.aload_n 0) 1 := im_D.of (by decide +kernel)
theorem D398_1 {g : im_g} : im_D g 398 1 (.getfield 17) 4 := im_D.of (by decide +kernel)
theorem D398_4 {g : im_g} : im_D g 398 4 (.iload_n 2) 5 := im_D.of (by decide +kernel)
theorem D398_5 {g : im_g} : im_D g 398 5 (.iaload) 6 := im_D.of (by decide +kernel)
theorem D398_6 {g : im_g} : im_D g 398 6 (.ifCond .ne 8) 9 := im_D.of (by decide +kernel)
theorem D398_9 {g : im_g} : im_D g 398 9 (.aload_n 0) 10 := im_D.of (by decide +kernel)
theorem D398_10 {g : im_g} : im_D g 398 10 (.invokevirtual 493) 13 := im_D.of (by decide +kernel)
theorem D398_13 {g : im_g} : im_D g 398 13 (.ireturn) 14 := im_D.of (by decide +kernel)
theorem D398_14 {g : im_g} : im_D g 398 14 (.aload_n 0) 15 := im_D.of (by decide +kernel)
theorem D398_15 {g : im_g} : im_D g 398 15 (.iload_n 1) 16 := im_D.of (by decide +kernel)
theorem D398_16 {g : im_g} : im_D g 398 16 (.aload_n 0) 17 := im_D.of (by decide +kernel)
theorem D398_17 {g : im_g} : im_D g 398 17 (.getfield 20) 20 := im_D.of (by decide +kernel)
theorem D398_20 {g : im_g} : im_D g 398 20 (.invokevirtual 474) 23 := im_D.of (by decide +kernel)
theorem D398_23 {g : im_g} : im_D g 398 23 (.istore_n 3) 24 := im_D.of (by decide +kernel)
theorem D398_24 {g : im_g} : im_D g 398 24 (.aload_n 0) 25 := im_D.of (by decide +kernel)
theorem D398_25 {g : im_g} : im_D g 398 25 (.iload_n 2) 26 := im_D.of (by decide +kernel)
theorem D398_26 {g : im_g} : im_D g 398 26 (.aload_n 0) 27 := im_D.of (by decide +kernel)
theorem D398_27 {g : im_g} : im_D g 398 27 (.getfield 24) 30 := im_D.of (by decide +kernel)
theorem D398_30 {g : im_g} : im_D g 398 30 (.invokevirtual 474) 33 := im_D.of (by decide +kernel)
theorem D398_33 {g : im_g} : im_D g 398 33 (.istore 4) 35 := im_D.of (by decide +kernel)
theorem D398_35 {g : im_g} : im_D g 398 35 (.ldc2_w 478) 38 := im_D.of (by decide +kernel)
theorem D398_38 {g : im_g} : im_D g 398 38 (.aload_n 0) 39 := im_D.of (by decide +kernel)
theorem D398_39 {g : im_g} : im_D g 398 39 (.getfield 24) 42 := im_D.of (by decide +kernel)
theorem D398_42 {g : im_g} : im_D g 398 42 (.iload 4) 44 := im_D.of (by decide +kernel)
theorem D398_44 {g : im_g} : im_D g 398 44 (.iconst 1) 45 := im_D.of (by decide +kernel)
theorem D398_45 {g : im_g} : im_D g 398 45 (.isub) 46 := im_D.of (by decide +kernel)
theorem D398_46 {g : im_g} : im_D g 398 46 (.laload) 47 := im_D.of (by decide +kernel)
theorem D398_47 {g : im_g} : im_D g 398 47 (.lconst 1) 48 := im_D.of (by decide +kernel)
theorem D398_48 {g : im_g} : im_D g 398 48 (.ladd) 49 := im_D.of (by decide +kernel)
theorem D398_49 {g : im_g} : im_D g 398 49 (.ldiv) 50 := im_D.of (by decide +kernel)
theorem D398_50 {g : im_g} : im_D g 398 50 (.lstore 5) 52 := im_D.of (by decide +kernel)
theorem D398_52 {g : im_g} : im_D g 398 52 (.aload_n 0) 53 := im_D.of (by decide +kernel)
theorem D398_53 {g : im_g} : im_D g 398 53 (.getfield 20) 56 := im_D.of (by decide +kernel)
theorem D398_56 {g : im_g} : im_D g 398 56 (.iload_n 3) 57 := im_D.of (by decide +kernel)
theorem D398_57 {g : im_g} : im_D g 398 57 (.lload 5) 59 := im_D.of (by decide +kernel)
theorem D398_59 {g : im_g} : im_D g 398 59 (.invokestatic 497) 62 := im_D.of (by decide +kernel)
theorem D398_62 {g : im_g} : im_D g 398 62 (.aload_n 0) 63 := im_D.of (by decide +kernel)
theorem D398_63 {g : im_g} : im_D g 398 63 (.getfield 24) 66 := im_D.of (by decide +kernel)
theorem D398_66 {g : im_g} : im_D g 398 66 (.iload 4) 68 := im_D.of (by decide +kernel)
theorem D398_68 {g : im_g} : im_D g 398 68 (.lload 5) 70 := im_D.of (by decide +kernel)
theorem D398_70 {g : im_g} : im_D g 398 70 (.invokestatic 497) 73 := im_D.of (by decide +kernel)
theorem D398_73 {g : im_g} : im_D g 398 73 (.aload_n 0) 74 := im_D.of (by decide +kernel)
theorem D398_74 {g : im_g} : im_D g 398 74 (.getfield 449) 77 := im_D.of (by decide +kernel)
theorem D398_77 {g : im_g} : im_D g 398 77 (.istore 7) 79 := im_D.of (by decide +kernel)
theorem D398_79 {g : im_g} : im_D g 398 79 (.iload_n 3) 80 := im_D.of (by decide +kernel)
theorem D398_80 {g : im_g} : im_D g 398 80 (.iload 4) 82 := im_D.of (by decide +kernel)
theorem D398_82 {g : im_g} : im_D g 398 82 (.if_icmp .ge 7) 85 := im_D.of (by decide +kernel)
theorem D398_85 {g : im_g} : im_D g 398 85 (.iconst 0) 86 := im_D.of (by decide +kernel)
theorem D398_86 {g : im_g} : im_D g 398 86 (.goto 9) 89 := im_D.of (by decide +kernel)
theorem D398_89 {g : im_g} : im_D g 398 89 (.iload_n 3) 90 := im_D.of (by decide +kernel)
theorem D398_90 {g : im_g} : im_D g 398 90 (.iload 4) 92 := im_D.of (by decide +kernel)
theorem D398_92 {g : im_g} : im_D g 398 92 (.isub) 93 := im_D.of (by decide +kernel)
theorem D398_93 {g : im_g} : im_D g 398 93 (.iconst 1) 94 := im_D.of (by decide +kernel)
theorem D398_94 {g : im_g} : im_D g 398 94 (.iadd) 95 := im_D.of (by decide +kernel)
theorem D398_95 {g : im_g} : im_D g 398 95 (.istore 8) 97 := im_D.of (by decide +kernel)
theorem D398_97 {g : im_g} : im_D g 398 97 (.iload 8) 99 := im_D.of (by decide +kernel)
theorem D398_99 {g : im_g} : im_D g 398 99 (.iconst 1) 100 := im_D.of (by decide +kernel)
theorem D398_100 {g : im_g} : im_D g 398 100 (.isub) 101 := im_D.of (by decide +kernel)
theorem D398_101 {g : im_g} : im_D g 398 101 (.istore 9) 103 := im_D.of (by decide +kernel)
theorem D398_103 {g : im_g} : im_D g 398 103 (.iload 9) 105 := im_D.of (by decide +kernel)
theorem D398_105 {g : im_g} : im_D g 398 105 (.ifCond .lt 24) 108 := im_D.of (by decide +kernel)
theorem D398_108 {g : im_g} : im_D g 398 108 (.aload_n 0) 109 := im_D.of (by decide +kernel)
theorem D398_109 {g : im_g} : im_D g 398 109 (.getfield 27) 112 := im_D.of (by decide +kernel)
theorem D398_112 {g : im_g} : im_D g 398 112 (.iload 9) 114 := im_D.of (by decide +kernel)
theorem D398_114 {g : im_g} : im_D g 398 114 (.aload_n 0) 115 := im_D.of (by decide +kernel)
theorem D398_115 {g : im_g} : im_D g 398 115 (.iload 9) 117 := im_D.of (by decide +kernel)
theorem D398_117 {g : im_g} : im_D g 398 117 (.iload 4) 119 := im_D.of (by decide +kernel)
theorem D398_119 {g : im_g} : im_D g 398 119 (.invokevirtual 501) 122 := im_D.of (by decide +kernel)
theorem D398_122 {g : im_g} : im_D g 398 122 (.lastore) 123 := im_D.of (by decide +kernel)
theorem D398_123 {g : im_g} : im_D g 398 123 (.iinc 9 (-1)) 126 := im_D.of (by decide +kernel)
theorem D398_126 {g : im_g} : im_D g 398 126 (.goto (-23)) 129 := im_D.of (by decide +kernel)
theorem D398_129 {g : im_g} : im_D g 398 129 (.aload_n 0) 130 := im_D.of (by decide +kernel)
theorem D398_130 {g : im_g} : im_D g 398 130 (.iload 7) 132 := im_D.of (by decide +kernel)
theorem D398_132 {g : im_g} : im_D g 398 132 (.iload 8) 134 := im_D.of (by decide +kernel)
theorem D398_134 {g : im_g} : im_D g 398 134 (.invokevirtual 480) 137 := im_D.of (by decide +kernel)
theorem D398_137 {g : im_g} : im_D g 398 137 (.aload_n 0) 138 := im_D.of (by decide +kernel)
theorem D398_138 {g : im_g} : im_D g 398 138 (.iload 7) 140 := im_D.of (by decide +kernel)
theorem D398_140 {g : im_g} : im_D g 398 140 (.bipush 9) 142 := im_D.of (by decide +kernel)
theorem D398_142 {g : im_g} : im_D g 398 142 (.iload 8) 144 := im_D.of (by decide +kernel)
theorem D398_144 {g : im_g} : im_D g 398 144 (.imul) 145 := im_D.of (by decide +kernel)
theorem D398_145 {g : im_g} : im_D g 398 145 (.aload_n 0) 146 := im_D.of (by decide +kernel)
theorem D398_146 {g : im_g} : im_D g 398 146 (.getfield 17) 149 := im_D.of (by decide +kernel)
theorem D398_149 {g : im_g} : im_D g 398 149 (.iload_n 1) 150 := im_D.of (by decide +kernel)
theorem D398_150 {g : im_g} : im_D g 398 150 (.iaload) 151 := im_D.of (by decide +kernel)
theorem D398_151 {g : im_g} : im_D g 398 151 (.aload_n 0) 152 := im_D.of (by decide +kernel)
theorem D398_152 {g : im_g} : im_D g 398 152 (.getfield 17) 155 := im_D.of (by decide +kernel)
theorem D398_155 {g : im_g} : im_D g 398 155 (.iload_n 2) 156 := im_D.of (by decide +kernel)
theorem D398_156 {g : im_g} : im_D g 398 156 (.iaload) 157 := im_D.of (by decide +kernel)
theorem D398_157 {g : im_g} : im_D g 398 157 (.imul) 158 := im_D.of (by decide +kernel)
theorem D398_158 {g : im_g} : im_D g 398 158 (.invokevirtual 455) 161 := im_D.of (by decide +kernel)
theorem D398_161 {g : im_g} : im_D g 398 161 (.ireturn) 162 := im_D.of (by decide +kernel)
theorem D399_0 {g : im_g} : im_D g 399 0 (.lconst 0) 1 := im_D.of (by decide +kernel)
theorem D399_1 {g : im_g} : im_D g 399 1 (.lstore 4) 3 := im_D.of (by decide +kernel)
theorem D399_3 {g : im_g} : im_D g 399 3 (.iconst 0) 4 := im_D.of (by decide +kernel)
theorem D399_4 {g : im_g} : im_D g 399 4 (.istore 6) 6 := im_D.of (by decide +kernel)
theorem D399_6 {g : im_g} : im_D g 399 6 (.iload 6) 8 := im_D.of (by decide +kernel)
theorem D399_8 {g : im_g} : im_D g 399 8 (.iload_n 1) 9 := im_D.of (by decide +kernel)
theorem D399_9 {g : im_g} : im_D g 399 9 (.if_icmp .gt 38) 12 := im_D.of (by decide +kernel)
theorem D399_12 {g : im_g} : im_D g 399 12 (.aload_n 0) 13 := im_D.of (by decide +kernel)
theorem D399_13 {g : im_g} : im_D g 399 13 (.iload 6) 15 := im_D.of (by decide +kernel)
theorem D399_15 {g : im_g} : im_D g 399 15 (.laload) 16 := im_D.of (by decide +kernel)
theorem D399_16 {g : im_g} : im_D g 399 16 (.lload_n 2) 17 := im_D.of (by decide +kernel)
theorem D399_17 {g : im_g} : im_D g 399 17 (.lmul) 18 := im_D.of (by decide +kernel)
theorem D399_18 {g : im_g} : im_D g 399 18 (.lload 4) 20 := im_D.of (by decide +kernel)
theorem D399_20 {g : im_g} : im_D g 399 20 (.ladd) 21 := im_D.of (by decide +kernel)
theorem D399_21 {g : im_g} : im_D g 399 21 (.lstore 7) 23 := im_D.of (by decide +kernel)
theorem D399_23 {g : im_g} : im_D g 399 23 (.aload_n 0) 24 := im_D.of (by decide +kernel)
theorem D399_24 {g : im_g} : im_D g 399 24 (.iload 6) 26 := im_D.of (by decide +kernel)
theorem D399_26 {g : im_g} : im_D g 399 26 (.lload 7) 28 := im_D.of (by decide +kernel)
theorem D399_28 {g : im_g} : im_D g 399 28 (.ldc2_w 478) 31 := im_D.of (by decide +kernel)
theorem D399_31 {g : im_g} : im_D g 399 31 (.lrem) 32 := im_D.of (by decide +kernel)
theorem D399_32 {g : im_g} : im_D g 399 32 (.lastore) 33 := im_D.of (by decide +kernel)
theorem D399_33 {g : im_g} : im_D g 399 33 (.lload 7) 35 := im_D.of (by decide +kernel)
theorem D399_35 {g : im_g} : im_D g 399 35 (.ldc2_w 478) 38 := im_D.of (by decide +kernel)
theorem D399_38 {g : im_g} : im_D g 399 38 (.ldiv) 39 := im_D.of (by decide +kernel)
theorem D399_39 {g : im_g} : im_D g 399 39 (.lstore 4) 41 := im_D.of (by decide +kernel)
theorem D399_41 {g : im_g} : im_D g 399 41 (.iinc 6 1) 44 := im_D.of (by decide +kernel)
theorem D399_44 {g : im_g} : im_D g 399 44 (.goto (-38)) 47 := im_D.of (by decide +kernel)
theorem D399_47 {g : im_g} : im_D g 399 47 (.return_) 48 := im_D.of (by decide +kernel)
theorem D400_0 {g : im_g} : im_D g 400 0 (.aload_n 0) 1 := im_D.of (by decide +kernel)
theorem D400_1 {g : im_g} : im_D g 400 1 (.getfield 20) 4 := im_D.of (by decide +kernel)
theorem D400_4 {g : im_g} : im_D g 400 4 (.iload_n 1) 5 := im_D.of (by decide +kernel)
theorem D400_5 {g : im_g} : im_D g 400 5 (.iload_n 2) 6 := im_D.of (by decide +kernel)
theorem D400_6 {g : im_g} : im_D g 400 6 (.iadd) 7 := im_D.of (by decide +kernel)
theorem D400_7 {g : im_g} : im_D g 400 7 (.laload) 8 := im_D.of (by decide +kernel)
theorem D400_8 {g : im_g} : im_D g 400 8 (.ldc2_w 478) 11 := im_D.of (by decide +kernel)
theorem D400_11 {g : im_g} : im_D g 400 11 (.lmul) 12 := im_D.of (by decide +kernel)
theorem D400_12 {g : im_g} : im_D g 400 12 (.aload_n 0) 13 := im_D.of (by decide +kernel)
theorem D400_13 {g : im_g} : im_D g 400 13 (.getfield 20) 16 := im_D.of (by decide +kernel)
theorem D400_16 {g : im_g} : im_D g 400 16 (.iload_n 1) 17 := im_D.of (by decide +kernel)
theorem D400_17 {g : im_g} : im_D g 400 17 (.iload_n 2) 18 := im_D.of (by decide +kernel)
theorem D400_18 {g : im_g} : im_D g 400 18 (.iadd) 19 := im_D.of (by decide +kernel)
theorem D400_19 {g : im_g} : im_D g 400 19 (.iconst 1) 20 := im_D.of (by decide +kernel)
theorem D400_20 {g : im_g} : im_D g 400 20 (.isub) 21 := im_D.of (by decide +kernel)
theorem D400_21 {g : im_g} : im_D g 400 21 (.laload) 22 := im_D.of (by decide +kernel)
theorem D400_22 {g : im_g} : im_D g 400 22 (.ladd) 23 := im_D.of (by decide +kernel)
theorem D400_23 {g : im_g} : im_D g 400 23 (.lstore_n 3) 24 := im_D.of (by decide +kernel)
theorem D400_24 {g : im_g} : im_D g 400 24 (.lload_n 3) 25 := im_D.of (by decide +kernel)
theorem D400_25 {g : im_g} : im_D g 400 25 (.aload_n 0) 26 := im_D.of (by decide +kernel)
theorem D400_26 {g : im_g} : im_D g 400 26 (.getfield 24) 29 := im_D.of (by decide +kernel)
theorem D400_29 {g : im_g} : im_D g 400 29 (.iload_n 2) 30 := im_D.of (by decide +kernel)
theorem D400_30 {g : im_g} : im_D g 400 30 (.iconst 1) 31 := im_D.of (by decide +kernel)
theorem D400_31 {g : im_g} : im_D g 400 31 (.isub) 32 := im_D.of (by decide +kernel)
theorem D400_32 {g : im_g} : im_D g 400 32 (.laload) 33 := im_D.of (by decide +kernel)
theorem D400_33 {g : im_g} : im_D g 400 33 (.ldiv) 34 := im_D.of (by decide +kernel)
theorem D400_34 {g : im_g} : im_D g 400 34 (.lstore 5) 36 := im_D.of (by decide +kernel)
theorem D400_36 {g : im_g} : im_D g 400 36 (.lload_n 3) 37 := im_D.of (by decide +kernel)
theorem D400_37 {g : im_g} : im_D g 400 37 (.aload_n 0) 38 := im_D.of (by decide +kernel)
theorem D400_38 {g : im_g} : im_D g 400 38 (.getfield 24) 41 := im_D.of (by decide +kernel)
theorem D400_41 {g : im_g} : im_D g 400 41 (.iload_n 2) 42 := im_D.of (by decide +kernel)
theorem D400_42 {g : im_g} : im_D g 400 42 (.iconst 1) 43 := im_D.of (by decide +kernel)
theorem D400_43 {g : im_g} : im_D g 400 43 (.isub) 44 := im_D.of (by decide +kernel)
theorem D400_44 {g : im_g} : im_D g 400 44 (.laload) 45 := im_D.of (by decide +kernel)
theorem D400_45 {g : im_g} : im_D g 400 45 (.lrem) 46 := im_D.of (by decide +kernel)
theorem D400_46 {g : im_g} : im_D g 400 46 (.lstore 7) 48 := im_D.of (by decide +kernel)
theorem D400_48 {g : im_g} : im_D g 400 48 (.lload 7) 50 := im_D.of (by decide +kernel)
theorem D400_50 {g : im_g} : im_D g 400 50 (.ldc2_w 478) 53 := im_D.of (by decide +kernel)
theorem D400_53 {g : im_g} : im_D g 400 53 (.lcmp) 54 := im_D.of (by decide +kernel)
theorem D400_54 {g : im_g} : im_D g 400 54 (.ifCond .ge 71) 57 := im_D.of (by decide +kernel)
theorem D400_57 {g : im_g} : im_D g 400 57 (.lload 5) 59 := im_D.of (by decide +kernel)
theorem D400_59 {g : im_g} : im_D g 400 59 (.ldc2_w 478) 62 := im_D.of (by decide +kernel)
theorem D400_62 {g : im_g} : im_D g 400 62 (.lcmp) 63 := im_D.of (by decide +kernel)
theorem D400_63 {g : im_g} : im_D g 400 63 (.ifCond .ge 40) 66 := im_D.of (by decide +kernel)
theorem D400_66 {g : im_g} : im_D g 400 66 (.iload_n 2) 67 := im_D.of (by decide +kernel)
theorem D400_67 {g : im_g} : im_D g 400 67 (.iconst 1) 68 := im_D.of (by decide +kernel)
theorem D400_68 {g : im_g} : im_D g 400 68 (.if_icmp .le 57) 71 := im_D.of (by decide +kernel)
theorem D400_71 {g : im_g} : im_D g 400 71 (.lload 5) 73 := im_D.of (by decide +kernel)
theorem D400_73 {g : im_g} : im_D g 400 73 (.aload_n 0) 74 := im_D.of (by decide +kernel)
theorem D400_74 {g : im_g} : im_D g 400 74 (.getfield 24) 77 := im_D.of (by decide +kernel)
theorem D400_77 {g : im_g} : im_D g 400 77 (.iload_n 2) 78 := im_D.of (by decide +kernel)
theorem D400_78 {g : im_g} : im_D g 400 78 (.iconst 2) 79 := im_D.of (by decide +kernel)
theorem D400_79 {g : im_g} : im_D g 400 79 (.isub) 80 := im_D.of (by decide +kernel)
theorem D400_80 {g : im_g} : im_D g 400 80 (.laload) 81 := im_D.of (by decide +kernel)
theorem D400_81 {g : im_g} : im_D g 400 81 (.lmul) 82 := im_D.of (by decide +kernel)
theorem D400_82 {g : im_g} : im_D g 400 82 (.lload 7) 84 := im_D.of (by decide +kernel)
theorem D400_84 {g : im_g} : im_D g 400 84 (.ldc2_w 478) 87 := im_D.of (by decide +kernel)
theorem D400_87 {g : im_g} : im_D g 400 87 (.lmul) 88 := im_D.of (by decide +kernel)
theorem D400_88 {g : im_g} : im_D g 400 88 (.aload_n 0) 89 := im_D.of (by decide +kernel)
theorem D400_89 {g : im_g} : im_D g 400 89 (.getfield 20) 92 := im_D.of (by decide +kernel)
theorem D400_92 {g : im_g} : im_D g 400 92 (.iload_n 1) 93 := im_D.of (by decide +kernel)
theorem D400_93 {g : im_g} : im_D g 400 93 (.iload_n 2) 94 := im_D.of (by decide +kernel)
theorem D400_94 {g : im_g} : im_D g 400 94 (.iadd) 95 := im_D.of (by decide +kernel)
theorem D400_95 {g : im_g} : im_D g 400 95 (.iconst 2) 96 := im_D.of (by decide +kernel)
theorem D400_96 {g : im_g} : im_D g 400 96 (.isub) 97 := im_D.of (by decide +kernel)
theorem D400_97 {g : im_g} : im_D g 400 97 (.laload) 98 := im_D.of (by decide +kernel)
theorem D400_98 {g : im_g} : im_D g 400 98 (.ladd) 99 := im_D.of (by decide +kernel)
theorem D400_99 {g : im_g} : im_D g 400 99 (.lcmp) 100 := im_D.of (by decide +kernel)
theorem D400_100 {g : im_g} : im_D g 400 100 (.ifCond .le 25) 103 := im_D.of (by decide +kernel)
theorem D400_103 {g : im_g} : im_D g 400 103 (.lload 5) 105 := im_D.of (by decide +kernel)
theorem D400_105 {g : im_g} : im_D g 400 105 (.lconst 1) 106 := im_D.of (by decide +kernel)
theorem D400_106 {g : im_g} : im_D g 400 106 (.lsub) 107 := im_D.of (by decide +kernel)
theorem D400_107 {g : im_g} : im_D g 400 107 (.lstore 5) 109 := im_D.of (by decide +kernel)
theorem D400_109 {g : im_g} : im_D g 400 109 (.lload 7) 111 := im_D.of (by decide +kernel)
theorem D400_111 {g : im_g} : im_D g 400 111 (.aload_n 0) 112 := im_D.of (by decide +kernel)
theorem D400_112 {g : im_g} : im_D g 400 112 (.getfield 24) 115 := im_D.of (by decide +kernel)
theorem D400_115 {g : im_g} : im_D g 400 115 (.iload_n 2) 116 := im_D.of (by decide +kernel)
theorem D400_116 {g : im_g} : im_D g 400 116 (.iconst 1) 117 := im_D.of (by decide +kernel)
theorem D400_117 {g : im_g} : im_D g 400 117 (.isub) 118 := im_D.of (by decide +kernel)
theorem D400_118 {g : im_g} : im_D g 400 118 (.laload) 119 := im_D.of (by decide +kernel)
theorem D400_119 {g : im_g} : im_D g 400 119 (.ladd) 120 := im_D.of (by decide +kernel)
theorem D400_120 {g : im_g} : im_D g 400 120 (.lstore 7) 122 := im_D.of (by decide +kernel)
theorem D400_122 {g : im_g} : im_D g 400 122 (.goto (-74)) 125 := im_D.of (by decide +kernel)
theorem D400_125 {g : im_g} : im_D g 400 125 (.aload_n 0) 126 := im_D.of (by decide +kernel)
theorem D400_126 {g : im_g} : im_D g 400 126 (.iload_n 1) 127 := im_D.of (by decide +kernel)
theorem D400_127 {g : im_g} : im_D g 400 127 (.iload_n 2) 128 := im_D.of (by decide +kernel)
theorem D400_128 {g : im_g} : im_D g 400 128 (.lload 5) 130 := im_D.of (by decide +kernel)
theorem D400_130 {g : im_g} : im_D g 400 130 (.invokevirtual 486) 133 := im_D.of (by decide +kernel)
theorem D400_133 {g : im_g} : im_D g 400 133 (.ifCond .ne 15) 136 := im_D.of (by decide +kernel)
theorem D400_136 {g : im_g} : im_D g 400 136 (.aload_n 0) 137 := im_D.of (by decide +kernel)
theorem D400_137 {g : im_g} : im_D g 400 137 (.iload_n 1) 138 := im_D.of (by decide +kernel)
theorem D400_138 {g : im_g} : im_D g 400 138 (.iload_n 2) 139 := im_D.of (by decide +kernel)
theorem D400_139 {g : im_g} : im_D g 400 139 (.invokevirtual 490) 142 := im_D.of (by decide +kernel)
theorem D400_142 {g : im_g} : im_D g 400 142 (.lload 5) 144 := im_D.of (by decide +kernel)
theorem D400_144 {g : im_g} : im_D g 400 144 (.lconst 1) 145 := im_D.of (by decide +kernel)
theorem D400_145 {g : im_g} : im_D g 400 145 (.lsub) 146 := im_D.of (by decide +kernel)
theorem D400_146 {g : im_g} : im_D g 400 146 (.lstore 5) 148 := im_D.of (by decide +kernel)
theorem D400_148 {g : im_g} : im_D g 400 148 (.lload 5) 150 := im_D.of (by decide +kernel)
theorem D400_150 {g : im_g} : im_D g 400 150 (.lreturn) 151 := im_D.of (by decide +kernel)
theorem D401_0 {g : im_g} : im_D g 401 0 (.lconst 0) 1 := im_D.of (by decide +kernel)
theorem D401_1 {g : im_g} : im_D g 401 1 (.lstore 5) 3 := im_D.of (by decide +kernel)
theorem D401_3 {g : im_g} : im_D g 401 3 (.iconst 0) 4 := im_D.of (by decide +kernel)
theorem D401_4 {g : im_g} : im_D g 401 4 (.istore 7) 6 := im_D.of (by decide +kernel)
theorem D401_6 {g : im_g} : im_D g 401 6 (.iload 7) 8 := im_D.of (by decide +kernel)
theorem D401_8 {g : im_g} : im_D g 401 8 (.iload_n 2) 9 := im_D.of (by decide +kernel)
theorem D401_9 {g : im_g} : im_D g 401 9 (.if_icmp .gt 84) 12 := im_D.of (by decide +kernel)
theorem D401_12 {g : im_g} : im_D g 401 12 (.aload_n 0) 13 := im_D.of (by decide +kernel)
theorem D401_13 {g : im_g} : im_D g 401 13 (.getfield 20) 16 := im_D.of (by decide +kernel)
theorem D401_16 {g : im_g} : im_D g 401 16 (.iload_n 1) 17 := im_D.of (by decide +kernel)
theorem D401_17 {g : im_g} : im_D g 401 17 (.iload 7) 19 := im_D.of (by decide +kernel)
theorem D401_19 {g : im_g} : im_D g 401 19 (.iadd) 20 := im_D.of (by decide +kernel)
theorem D401_20 {g : im_g} : im_D g 401 20 (.laload) 21 := im_D.of (by decide +kernel)
theorem D401_21 {g : im_g} : im_D g 401 21 (.lload 5) 23 := im_D.of (by decide +kernel)
theorem D401_23 {g : im_g} : im_D g 401 23 (.lsub) 24 := im_D.of (by decide +kernel)
theorem D401_24 {g : im_g} : im_D g 401 24 (.iload 7) 26 := im_D.of (by decide +kernel)
theorem D401_26 {g : im_g} : im_D g 401 26 (.iload_n 2) 27 := im_D.of (by decide +kernel)
theorem D401_27 {g : im_g} : im_D g 401 27 (.if_icmp .ge 15) 30 := im_D.of (by decide +kernel)
theorem D401_30 {g : im_g} : im_D g 401 30 (.lload_n 3) 31 := im_D.of (by decide +kernel)
theorem D401_31 {g : im_g} : im_D g 401 31 (.aload_n 0) 32 := im_D.of (by decide +kernel)
theorem D401_32 {g : im_g} : im_D g 401 32 (.getfield 24) 35 := im_D.of (by decide +kernel)
theorem D401_35 {g : im_g} : im_D g 401 35 (.iload 7) 37 := im_D.of (by decide +kernel)
theorem D401_37 {g : im_g} : im_D g 401 37 (.laload) 38 := im_D.of (by decide +kernel)
theorem D401_38 {g : im_g} : im_D g 401 38 (.lmul) 39 := im_D.of (by decide +kernel)
theorem D401_39 {g : im_g} : im_D g 401 39 (.goto 4) 42 := im_D.of (by decide +kernel)
theorem D401_42 {g : im_g} : im_D g 401 42 (.lconst 0) 43 := im_D.of (by decide +kernel)
theorem D401_43 {g : im_g} : im_D g 401 43 (.lsub) 44 := im_D.of (by decide +kernel)
theorem D401_44 {g : im_g} : im_D g 401 44 (.lstore 8) 46 := im_D.of (by decide +kernel)
theorem D401_46 {g : im_g} : im_D g 401 46 (.lload 8) 48 := im_D.of (by decide +kernel)
theorem D401_48 {g : im_g} : im_D g 401 48 (.lconst 0) 49 := im_D.of (by decide +kernel)
theorem D401_49 {g : im_g} : im_D g 401 49 (.lcmp) 50 := im_D.of (by decide +kernel)
theorem D401_50 {g : im_g} : im_D g 401 50 (.ifCond .ge 16) 53 := im_D.of (by decide +kernel)
theorem D401_53 {g : im_g} : im_D g 401 53 (.ldc2_w 484) 56 := im_D.of (by decide +kernel)
theorem D401_56 {g : im_g} : im_D g 401 56 (.lload 8) 58 := im_D.of (by decide +kernel)
theorem D401_58 {g : im_g} : im_D g 401 58 (.lsub) 59 := im_D.of (by decide +kernel)
theorem D401_59 {g : im_g} : im_D g 401 59 (.ldc2_w 478) 62 := im_D.of (by decide +kernel)
theorem D401_62 {g : im_g} : im_D g 401 62 (.ldiv) 63 := im_D.of (by decide +kernel)
theorem D401_63 {g : im_g} : im_D g 401 63 (.goto 4) 66 := im_D.of (by decide +kernel)
theorem D401_66 {g : im_g} : im_D g 401 66 (.lconst 0) 67 := im_D.of (by decide +kernel)
theorem D401_67 {g : im_g} : im_D g 401 67 (.lstore 5) 69 := im_D.of (by decide +kernel)
theorem D401_69 {g : im_g} : im_D g 401 69 (.aload_n 0) 70 := im_D.of (by decide +kernel)
theorem D401_70 {g : im_g} : im_D g 401 70 (.getfield 20) 73 := im_D.of (by decide +kernel)
theorem D401_73 {g : im_g} : im_D g 401 73 (.iload_n 1) 74 := im_D.of (by decide +kernel)
theorem D401_74 {g : im_g} : im_D g 401 74 (.iload 7) 76 := im_D.of (by decide +kernel)
theorem D401_76 {g : im_g} : im_D g 401 76 (.iadd) 77 := im_D.of (by decide +kernel)
theorem D401_77 {g : im_g} : im_D g 401 77 (.lload 8) 79 := im_D.of (by decide +kernel)
theorem D401_79 {g : im_g} : im_D g 401 79 (.lload 5) 81 := im_D.of (by decide +kernel)
theorem D401_81 {g : im_g} : im_D g 401 81 (.ldc2_w 478) 84 := im_D.of (by decide +kernel)
theorem D401_84 {g : im_g} : im_D g 401 84 (.lmul) 85 := im_D.of (by decide +kernel)
theorem D401_85 {g : im_g} : im_D g 401 85 (.ladd) 86 := im_D.of (by decide +kernel)
theorem D401_86 {g : im_g} : im_D g 401 86 (.lastore) 87 := im_D.of (by decide +kernel)
theorem D401_87 {g : im_g} : im_D g 401 87 (.iinc 7 1) 90 := im_D.of (by decide +kernel)
theorem D401_90 {g : im_g} : im_D g 401 90 (.goto (-84)) 93 := im_D.of (by decide +kernel)
theorem D401_93 {g : im_g} : im_D g 401 93 (.lload 5) 95 := im_D.of (by decide +kernel)
theorem D401_95 {g : im_g} : im_D g 401 95 (.lconst 0) 96 := im_D.of (by decide +kernel)
theorem D401_96 {g : im_g} : im_D g 401 96 (.lcmp) 97 := im_D.of (by decide +kernel)
theorem D401_97 {g : im_g} : im_D g 401 97 (.ifCond .ne 7) 100 := im_D.of (by decide +kernel)
theorem D401_100 {g : im_g} : im_D g 401 100 (.iconst 1) 101 := im_D.of (by decide +kernel)
theorem D401_101 {g : im_g} : im_D g 401 101 (.goto 4) 104 := im_D.of (by decide +kernel)
theorem D401_104 {g : im_g} : im_D g 401 104 (.iconst 0) 105 := im_D.of (by decide +kernel)
theorem D401_105 {g : im_g} : im_D g 401 105 (.ireturn) 106 := im_D.of (by decide +kernel)
theorem D402_0 {g : im_g} : im_D g 402 0 (.lconst 0) 1 := im_D.of (by decide +kernel)
theorem D402_1 {g : im_g} : im_D g 402 1 (.lstore_n 3) 2 := im_D.of (by decide +kernel)
theorem D402_2 {g : im_g} : im_D g 402 2 (.iconst 0) 3 := im_D.of (by decide +kernel)
theorem D402_3 {g : im_g} : im_D g 402 3 (.istore 5) 5 := im_D.of (by decide +kernel)
theorem D402_5 {g : im_g} : im_D g 402 5 (.iload 5) 7 := im_D.of (by decide +kernel)
theorem D402_7 {g : im_g} : im_D g 402 7 (.iload_n 2) 8 := im_D.of (by decide +kernel)
theorem D402_8 {g : im_g} : im_D g 402 8 (.if_icmp .gt 72) 11 := im_D.of (by decide +kernel)
theorem D402_11 {g : im_g} : im_D g 402 11 (.aload_n 0) 12 := im_D.of (by decide +kernel)
theorem D402_12 {g : im_g} : im_D g 402 12 (.getfield 20) 15 := im_D.of (by decide +kernel)
theorem D402_15 {g : im_g} : im_D g 402 15 (.iload_n 1) 16 := im_D.of (by decide +kernel)
theorem D402_16 {g : im_g} : im_D g 402 16 (.iload 5) 18 := im_D.of (by decide +kernel)
theorem D402_18 {g : im_g} : im_D g 402 18 (.iadd) 19 := im_D.of (by decide +kernel)
theorem D402_19 {g : im_g} : im_D g 402 19 (.laload) 20 := im_D.of (by decide +kernel)
theorem D402_20 {g : im_g} : im_D g 402 20 (.iload 5) 22 := im_D.of (by decide +kernel)
theorem D402_22 {g : im_g} : im_D g 402 22 (.iload_n 2) 23 := im_D.of (by decide +kernel)
theorem D402_23 {g : im_g} : im_D g 402 23 (.if_icmp .ge 13) 26 := im_D.of (by decide +kernel)
theorem D402_26 {g : im_g} : im_D g 402 26 (.aload_n 0) 27 := im_D.of (by decide +kernel)
theorem D402_27 {g : im_g} : im_D g 402 27 (.getfield 24) 30 := im_D.of (by decide +kernel)
theorem D402_30 {g : im_g} : im_D g 402 30 (.iload 5) 32 := im_D.of (by decide +kernel)
theorem D402_32 {g : im_g} : im_D g 402 32 (.laload) 33 := im_D.of (by decide +kernel)
theorem D402_33 {g : im_g} : im_D g 402 33 (.goto 4) 36 := im_D.of (by decide +kernel)
theorem D402_36 {g : im_g} : im_D g 402 36 (.lconst 0) 37 := im_D.of (by decide +kernel)
theorem D402_37 {g : im_g} : im_D g 402 37 (.ladd) 38 := im_D.of (by decide +kernel)
theorem D402_38 {g : im_g} : im_D g 402 38 (.lload_n 3) 39 := im_D.of (by decide +kernel)
theorem D402_39 {g : im_g} : im_D g 402 39 (.ladd) 40 := im_D.of (by decide +kernel)
theorem D402_40 {g : im_g} : im_D g 402 40 (.lstore 6) 42 := im_D.of (by decide +kernel)
theorem D402_42 {g : im_g} : im_D g 402 42 (.lload 6) 44 := im_D.of (by decide +kernel)
theorem D402_44 {g : im_g} : im_D g 402 44 (.ldc2_w 478) 47 := im_D.of (by decide +kernel)
theorem D402_47 {g : im_g} : im_D g 402 47 (.lcmp) 48 := im_D.of (by decide +kernel)
theorem D402_48 {g : im_g} : im_D g 402 48 (.ifCond .lt 7) 51 := im_D.of (by decide +kernel)
theorem D402_51 {g : im_g} : im_D g 402 51 (.lconst 1) 52 := im_D.of (by decide +kernel)
theorem D402_52 {g : im_g} : im_D g 402 52 (.goto 4) 55 := im_D.of (by decide +kernel)
theorem D402_55 {g : im_g} : im_D g 402 55 (.lconst 0) 56 := im_D.of (by decide +kernel)
theorem D402_56 {g : im_g} : im_D g 402 56 (.lstore_n 3) 57 := im_D.of (by decide +kernel)
theorem D402_57 {g : im_g} : im_D g 402 57 (.aload_n 0) 58 := im_D.of (by decide +kernel)
theorem D402_58 {g : im_g} : im_D g 402 58 (.getfield 20) 61 := im_D.of (by decide +kernel)
theorem D402_61 {g : im_g} : im_D g 402 61 (.iload_n 1) 62 := im_D.of (by decide +kernel)
theorem D402_62 {g : im_g} : im_D g 402 62 (.iload 5) 64 := im_D.of (by decide +kernel)
theorem D402_64 {g : im_g} : im_D g 402 64 (.iadd) 65 := im_D.of (by decide +kernel)
theorem D402_65 {g : im_g} : im_D g 402 65 (.lload 6) 67 := im_D.of (by decide +kernel)
theorem D402_67 {g : im_g} : im_D g 402 67 (.lload_n 3) 68 := im_D.of (by decide +kernel)
theorem D402_68 {g : im_g} : im_D g 402 68 (.ldc2_w 478) 71 := im_D.of (by decide +kernel)
theorem D402_71 {g : im_g} : im_D g 402 71 (.lmul) 72 := im_D.of (by decide +kernel)
theorem D402_72 {g : im_g} : im_D g 402 72 (.lsub) 73 := im_D.of (by decide +kernel)
theorem D402_73 {g : im_g} : im_D g 402 73 (.lastore) 74 := im_D.of (by decide +kernel)
theorem D402_74 {g : im_g} : im_D g 402 74 (.iinc 5 1) 77 := im_D.of (by decide +kernel)
theorem D402_77 {g : im_g} : im_D g 402 77 (.goto (-72)) 80 := im_D.of (by decide +kernel)
theorem D402_80 {g : im_g} : im_D g 402 80 (.return_) 81 := im_D.of (by decide +kernel)
set_option maxRecDepth 20000 in
set_option maxHeartbeats 4000000 in
theorem b_zero_0 {g : im_g} {d : Nat} {e : im_E} {M : im_M} {K : im_K} (hP : (0 ≤ (M 6952 7) ∧ (M 6952 7) < 1100000) ∧ (0 ≤ ((M 6952 7) + 1) ∧ ((M 6952 7) + 1) < 1100000) ∧ (im_i32 ((M 6952 7) + 2)) ∧ K (.inl (some (vI (M 6952 7)))) e (im_u (im_u (im_u M 6955 (M 6952 7) 0) 6955 ((M 6952 7) + 1) 0) 6952 7 ((M 6952 7) + 2))) : im_T g d 386 0 [some (.ref 6952), none] [] e M K := by
  refine im_ld (q := 1) (i := 0) D386_0 rfl rfl rfl ?_
  refine im_rng (j := 7) sf_6952 (by decide) (by decide) (fun hr1 => ?_)
  refine im_gfI (q := 4) D386_1 (im_fl cn_386 fl_12_449) sf_6952 rfl rfl tI_12_7 rfl ?_
  refine im_st1 (q := 5) (i := 1) (L' := [some (.ref 6952), some (vI (M 6952 7))]) D386_4 (Or.inl ⟨_, rfl, rfl⟩) (Nat.le_of_ble_eq_true rfl) rfl ?_
  refine im_ld (q := 6) (i := 0) D386_5 rfl rfl rfl ?_
  refine im_gfR (q := 9) (b := 6955) D386_6 (im_fl cn_386 fl_12_17) sf_6952 rfl rfl tR_12_5 rf_6952_5 ?_
  refine im_ld (q := 10) (i := 1) D386_9 rfl rfl rfl ?_
  refine im_iconst (q := 11) D386_10 ?_
  obtain ⟨hg2, hP⟩ := hP
  refine im_iast (q := 12) D386_11 sf_6955 hg2.1 hg2.2 (by decide) (by decide) ?_
  refine im_ld (q := 13) (i := 0) D386_12 rfl rfl rfl ?_
  refine im_gfR (q := 16) (b := 6955) D386_13 (im_fl cn_386 fl_12_17) sf_6952 rfl rfl tR_12_5 rf_6952_5 ?_
  refine im_ld (q := 17) (i := 1) D386_16 rfl rfl rfl ?_
  refine im_iconst (q := 18) D386_17 ?_
  refine im_iadd (q := 19) D386_18 ?_
  refine im_iconst (q := 20) D386_19 ?_
  obtain ⟨hg3, hP⟩ := hP
  refine im_iast (q := 21) D386_20 sf_6955 hg3.1 hg3.2 (by decide) (by decide) ?_
  refine im_ld (q := 22) (i := 0) D386_21 rfl rfl rfl ?_
  refine im_dup (q := 23) D386_22 rfl ?_
  refine im_gfI (q := 26) D386_23 (im_fl cn_386 fl_12_449) sf_6952 rfl rfl tI_12_7 ((im_rdn _ _ _ _ (by decide)).trans (im_rdn _ _ _ _ (by decide))) ?_
  refine im_iconst (q := 27) D386_26 ?_
  refine im_iadd (q := 28) D386_27 ?_
  obtain ⟨hg5, hP⟩ := hP
  refine im_pfI (q := 31) D386_28 (im_fl cn_386 fl_12_449) sf_6952 rfl rfl ti_12_7 hg5 ?_
  refine im_ld (q := 32) (i := 1) D386_31 rfl rfl rfl ?_
  exact im_iret (q := 33) D386_32 rfl hP
set_option maxRecDepth 20000 in
set_option maxHeartbeats 4000000 in
theorem b_close_0 {g : im_g} {d : Nat} {e : im_E} {M : im_M} {K : im_K} {p1 p2 p3 : Int} (hP : im_T g d 292 3 [some (.ref 6952), some (vI p1), none, some (vI p3), some (vI p2)] [] e M K) : im_T g d 292 0 [some (.ref 6952), some (vI p1), some (vI p2), some (vI p3), none] [] e M K := by
  refine im_ld (q := 1) (i := 2) D292_0 rfl rfl rfl ?_
  refine im_st1 (q := 3) (i := 4) (L' := [some (.ref 6952), some (vI p1), some (vI p2), some (vI p3), some (vI p2)]) D292_1 (Or.inr rfl) (Nat.le_of_ble_eq_true rfl) rfl ?_
  exact hP.wk ⟨rfl, rfl, rfl, rfl, trivial⟩
set_option maxRecDepth 20000 in
set_option maxHeartbeats 4000000 in
theorem b_close_3 {g : im_g} {d : Nat} {e : im_E} {M : im_M} {K : im_K} {p1 p3 p4 : Int} (hP : (im_i32 p4) ∧ ((((0 < p4 → (0 ≤ ((p1 + 1) + p4) ∧ ((p1 + 1) + p4) < 1100000) ∧ (((M 6955 ((p1 + 1) + p4)) = 0 → im_T g d 292 3 [some (.ref 6952), some (vI p1), none, some (vI p3), some (vI (p4 + (-1)))] [] e M K))))) ∧ ((((p4 ≤ 0)) ∨ ((0 < p4) ∧ (¬ (M 6955 ((p1 + 1) + p4)) = 0))) → ((∀ x10 : Int, (((¬ p4 = 0) ∧ x10 = p3) ∨ ((p4 = 0) ∧ x10 = 0)) → (0 ≤ p1 ∧ p1 < 1100000) ∧ (im_i32 x10) ∧ (0 ≤ (p1 + 1) ∧ (p1 + 1) < 1100000) ∧ (im_i32 ((p1 + 2) + p4)) ∧ (((((M 6952 8) = 0 → ((p4 ≤ 300 → K (.inl (some (vI p1))) e (im_u (im_u (im_u (im_u M 6955 p1 x10) 6955 (p1 + 1) p4) 6952 7 ((p1 + 2) + p4)) 6952 8 0)))))) ∧ ((((¬ (M 6952 8) = 0)) ∨ (((M 6952 8) = 0) ∧ (300 < p4))) → K (.inl (some (vI p1))) e (im_u (im_u (im_u (im_u M 6955 p1 x10) 6955 (p1 + 1) p4) 6952 7 ((p1 + 2) + p4)) 6952 8 1)))))))) : im_T g d 292 3 [some (.ref 6952), some (vI p1), none, some (vI p3), some (vI p4)] [] e M K := by
  refine im_ld (q := 5) (i := 4) D292_3 rfl rfl rfl ?_
  obtain ⟨hg1, hP⟩ := hP
  obtain ⟨hP, hJ6⟩ := hP
  have kJ7 : (((p4 ≤ 0)) ∨ ((0 < p4) ∧ (¬ (M 6955 ((p1 + 1) + p4)) = 0))) → im_T g d 292 28 [some (.ref 6952), some (vI p1), none, some (vI p3), some (vI p4)] [] e M K := by
    intro  hx8
    have hP := hJ6  hx8
    refine im_ld (q := 29) (i := 0) D292_28 rfl rfl rfl ?_
    refine im_gfR (q := 32) (b := 6955) D292_29 (im_fl cn_292 fl_12_17) sf_6952 rfl rfl tR_12_5 rf_6952_5 ?_
    refine im_ld (q := 33) (i := 1) D292_32 rfl rfl rfl ?_
    refine im_ld (q := 35) (i := 4) D292_33 rfl rfl rfl ?_
    have hJ11 := hP
    have kJ12 : ∀ x10 : Int, (((¬ p4 = 0) ∧ x10 = p3) ∨ ((p4 = 0) ∧ x10 = 0)) → im_T g d 292 43 [some (.ref 6952), some (vI p1), none, none, some (vI p4)] [vI x10, vI p1, .ref 6955] e M K := by
      intro x10 hx13
      have hP := hJ11 x10 hx13
      obtain ⟨hg14, hP⟩ := hP
      obtain ⟨hg15, hP⟩ := hP
      refine im_iast (q := 44) D292_43 sf_6955 hg14.1 hg14.2 (by decide) hg15 ?_
      refine im_ld (q := 45) (i := 0) D292_44 rfl rfl rfl ?_
      refine im_gfR (q := 48) (b := 6955) D292_45 (im_fl cn_292 fl_12_17) sf_6952 rfl rfl tR_12_5 rf_6952_5 ?_
      refine im_ld (q := 49) (i := 1) D292_48 rfl rfl rfl ?_
      refine im_iconst (q := 50) D292_49 ?_
      refine im_iadd (q := 51) D292_50 ?_
      refine im_ld (q := 53) (i := 4) D292_51 rfl rfl rfl ?_
      obtain ⟨hg16, hP⟩ := hP
      refine im_iast (q := 54) D292_53 sf_6955 hg16.1 hg16.2 (by decide) hg1 ?_
      refine im_ld (q := 55) (i := 0) D292_54 rfl rfl rfl ?_
      refine im_ld (q := 56) (i := 1) D292_55 rfl rfl rfl ?_
      refine im_iconst (q := 57) D292_56 ?_
      refine im_iadd (q := 58) D292_57 ?_
      refine im_ld (q := 60) (i := 4) D292_58 rfl rfl rfl ?_
      refine im_iadd (q := 61) D292_60 ?_
      obtain ⟨hg17, hP⟩ := hP
      refine im_pfI (q := 64) D292_61 (im_fl cn_292 fl_12_449) sf_6952 rfl rfl ti_12_7 hg17 ?_
      refine im_ld (q := 65) (i := 0) D292_64 rfl rfl rfl ?_
      refine im_ld (q := 66) (i := 0) D292_65 rfl rfl rfl ?_
      refine im_rng (j := 8) sf_6952 (by decide) (by decide) (fun hr18 => ?_)
      refine im_gfI (q := 69) D292_66 (im_fl cn_292 fl_12_452) sf_6952 rfl rfl tI_12_8 ((im_rdk _ _ _ (by decide)).trans ((im_rdn _ _ _ _ (by decide)).trans (im_rdn _ _ _ _ (by decide)))) ?_
      obtain ⟨hP, hJ21⟩ := hP
      have kJ22 : (((¬ (M 6952 8) = 0)) ∨ (((M 6952 8) = 0) ∧ (300 < p4))) → im_T g d 292 80 [none, some (vI p1), none, none, none] [.ref 6952] e (im_u (im_u (im_u M 6955 p1 x10) 6955 (p1 + 1) p4) 6952 7 ((p1 + 2) + p4)) K := by
        intro  hx23
        have hP := hJ21  hx23
        refine im_iconst (q := 81) D292_80 ?_
        refine im_goto (q := 84) (t := 85) D292_81 rfl ?_
        refine im_pfZ (q := 88) D292_85 (im_fl cn_292 fl_12_452) sf_6952 rfl rfl tz_12_8 (by decide) ?_
        refine im_ld (q := 89) (i := 1) D292_88 rfl rfl rfl ?_
        exact im_iret (q := 90) D292_89 rfl hP
      refine im_ifc (q := 72) (t := 80) D292_69 rfl (im_z32 (im_rgc hr18 ((im_rdk _ _ _ (by decide)).trans ((im_rdn _ _ _ _ (by decide)).trans (im_rdn _ _ _ _ (by decide)))))) (fun hc19 => ?_) (fun hc19 => ?_)
      · exact (kJ22  (Or.inl hc19)).wk ⟨rfl, trivial⟩
      · replace hP := hP (Decidable.not_not.mp hc19)
        refine im_ld (q := 74) (i := 4) D292_72 rfl rfl rfl ?_
        refine im_sipush (q := 77) D292_74 rfl ?_
        refine im_icmp (q := 80) (t := 84) D292_77 rfl hg1 (by decide) (fun hc20 => ?_) (fun hc20 => ?_)
        · replace hP := hP hc20
          refine im_iconst (q := 85) D292_84 ?_
          refine im_pfZ (q := 88) D292_85 (im_fl cn_292 fl_12_452) sf_6952 rfl rfl tz_12_8 (by decide) ?_
          refine im_ld (q := 89) (i := 1) D292_88 rfl rfl rfl ?_
          exact im_iret (q := 90) D292_89 rfl hP
        · exact (kJ22  (Or.inr ⟨(Decidable.not_not.mp hc19), (Int.not_le.mp hc20)⟩)).wk ⟨rfl, trivial⟩
    refine im_ifc (q := 38) (t := 42) D292_35 rfl hg1 (fun hc9 => ?_) (fun hc9 => ?_)
    · refine im_ld (q := 43) (i := 3) D292_42 rfl rfl rfl ?_
      exact (kJ12 (p3) (Or.inl ⟨hc9, rfl⟩)).wk ⟨rfl, rfl, rfl, trivial⟩
    · refine im_iconst (q := 39) D292_38 ?_
      refine im_goto (q := 42) (t := 43) D292_39 rfl ?_
      exact (kJ12 (0) (Or.inr ⟨(Decidable.not_not.mp hc9), rfl⟩)).wk ⟨rfl, rfl, rfl, trivial⟩
  refine im_ifc (q := 8) (t := 28) D292_5 rfl hg1 (fun hc2 => ?_) (fun hc2 => ?_)
  · exact (kJ7  (Or.inl hc2)).wk ⟨rfl, rfl, rfl, rfl, trivial⟩
  · replace hP := hP (Int.not_le.mp hc2)
    refine im_ld (q := 9) (i := 0) D292_8 rfl rfl rfl ?_
    refine im_gfR (q := 12) (b := 6955) D292_9 (im_fl cn_292 fl_12_17) sf_6952 rfl rfl tR_12_5 rf_6952_5 ?_
    refine im_ld (q := 13) (i := 1) D292_12 rfl rfl rfl ?_
    refine im_iconst (q := 14) D292_13 ?_
    refine im_iadd (q := 15) D292_14 ?_
    refine im_ld (q := 17) (i := 4) D292_15 rfl rfl rfl ?_
    refine im_iadd (q := 18) D292_17 ?_
    obtain ⟨hg3, hP⟩ := hP
    refine im_rng (j := ((p1 + 1) + p4)) sf_6955 hg3.1 hg3.2 (fun hr4 => ?_)
    refine im_iald (q := 19) D292_18 sf_6955 hg3.1 hg3.2 (by decide) rfl ?_
    refine im_ifc (q := 22) (t := 28) D292_19 rfl hr4 (fun hc5 => ?_) (fun hc5 => ?_)
    · exact (kJ7  (Or.inr ⟨(Int.not_le.mp hc2), hc5⟩)).wk ⟨rfl, rfl, rfl, rfl, trivial⟩
    · replace hP := hP (Decidable.not_not.mp hc5)
      refine im_iinc (q := 25) (i := 4) (L' := [some (.ref 6952), some (vI p1), none, some (vI p3), some (vI (p4 + (-1)))]) D292_22 rfl (Nat.le_of_ble_eq_true rfl) rfl ?_
      refine im_goto (q := 28) (t := 3) D292_25 rfl ?_
      exact hP.wk ⟨rfl, rfl, rfl, rfl, trivial⟩
set_option maxRecDepth 20000 in
set_option maxHeartbeats 4000000 in
theorem b_ofLong_0 {g : im_g} {d : Nat} {e : im_E} {M : im_M} {K : im_K} {p1 : Int} (hP : im_T g d 391 11 [some (.ref 6952), none, none, some (vI (M 6952 7)), some (vI 0), some (vL p1), none] [] e M K) : im_T g d 391 0 [some (.ref 6952), some (vL p1), none, none, none, none, none] [] e M K := by
  refine im_ld (q := 1) (i := 0) D391_0 rfl rfl rfl ?_
  refine im_rng (j := 7) sf_6952 (by decide) (by decide) (fun hr1 => ?_)
  refine im_gfI (q := 4) D391_1 (im_fl cn_391 fl_12_449) sf_6952 rfl rfl tI_12_7 rfl ?_
  refine im_st1 (q := 5) (i := 3) (L' := [some (.ref 6952), some (vL p1), none, some (vI (M 6952 7)), none, none, none]) D391_4 (Or.inl ⟨_, rfl, rfl⟩) (Nat.le_of_ble_eq_true rfl) rfl ?_
  refine im_iconst (q := 6) D391_5 ?_
  refine im_st1 (q := 8) (i := 4) (L' := [some (.ref 6952), some (vL p1), none, some (vI (M 6952 7)), some (vI 0), none, none]) D391_6 (Or.inr rfl) (Nat.le_of_ble_eq_true rfl) rfl ?_
  refine im_ld (q := 9) (i := 1) D391_8 rfl rfl rfl ?_
  refine im_st2 (q := 11) (i := 5) (L' := [some (.ref 6952), some (vL p1), none, some (vI (M 6952 7)), some (vI 0), some (vL p1), none]) D391_9 (Or.inr rfl) (Nat.le_of_ble_eq_true rfl) rfl ?_
  exact hP.wk ⟨rfl, rfl, rfl, rfl, trivial⟩
set_option maxRecDepth 20000 in
set_option maxHeartbeats 4000000 in
theorem b_ofLong_11 {g : im_g} {d : Nat} {e : im_E} {M : im_M} {K : im_K} {p3 p4 p5 : Int} (hd : 1 ≤ d) (hP : (im_i64 p5) ∧ ((p5 ≤ 0 → im_T g (d - 1) 292 0 [some (.ref 6952), some (vI p3), some (vI p4), some (vI 1), none] [] e M (im_ri (fun x4 e_ M3 => e = e_ ∧ K (.inl (some (vI x4))) e M3))) ∧ (0 < p5 → (0 ≤ ((p3 + 2) + p4) ∧ ((p3 + 2) + p4) < 1100000) ∧ (im_i32 (p5.tmod 10)) ∧ im_T g d 391 11 [some (.ref 6952), none, none, some (vI p3), some (vI (p4 + 1)), some (vL (p5.tdiv 10)), none] [] e (im_u M 6955 ((p3 + 2) + p4) (p5.tmod 10)) K))) : im_T g d 391 11 [some (.ref 6952), none, none, some (vI p3), some (vI p4), some (vL p5), none] [] e M K := by
  refine im_ld (q := 13) (i := 5) D391_11 rfl rfl rfl ?_
  refine im_lconst (q := 14) (z := 0) D391_13 rfl ?_
  obtain ⟨hg1, hP⟩ := hP
  refine im_lif (q := 15) (q2 := 18) (t := 50) D391_14 D391_15 rfl hg1 (by decide) (fun hc2 => ?_) (fun hc2 => ?_)
  · replace hP := hP.1 hc2
    refine im_ld (q := 51) (i := 0) D391_50 rfl rfl rfl ?_
    refine im_ld (q := 52) (i := 3) D391_51 rfl rfl rfl ?_
    refine im_ld (q := 54) (i := 4) D391_52 rfl rfl rfl ?_
    refine im_iconst (q := 55) D391_54 ?_
    refine im_callV (q := 58) (kd := 1) (y := 292) (n := 3) (ci := 12) (a := 6952) (vs := [.ref 6952, vI p3, vI p4, vI 1]) (r := []) (L2 := [some (.ref 6952), some (vI p3), some (vI p4), some (vI 1), none]) D391_55 (im_cal cn_391 cl_12_455) (Or.inl rfl) rfl sf_6952 rfl rfl rfl rfl hd ⟨rfl, rfl, rfl, rfl, trivial⟩ ?_
    refine hP.mono ?_
    rintro _ e5 M3 ⟨x4, rfl, rfl, hP⟩
    refine im_bkS ?_
    exact im_iret (q := 59) D391_58 rfl hP
  · replace hP := hP.2 (Int.not_le.mp hc2)
    refine im_ld (q := 19) (i := 0) D391_18 rfl rfl rfl ?_
    refine im_gfR (q := 22) (b := 6955) D391_19 (im_fl cn_391 fl_12_17) sf_6952 rfl rfl tR_12_5 rf_6952_5 ?_
    refine im_ld (q := 23) (i := 3) D391_22 rfl rfl rfl ?_
    refine im_iconst (q := 24) D391_23 ?_
    refine im_iadd (q := 25) D391_24 ?_
    refine im_ld (q := 27) (i := 4) D391_25 rfl rfl rfl ?_
    refine im_iadd (q := 28) D391_27 ?_
    refine im_ld (q := 30) (i := 5) D391_28 rfl rfl rfl ?_
    refine im_ldc2 (q := 33) (n := 10) D391_30 rfl ?_
    refine im_lrem (q := 34) D391_33 hg1 (by decide) (by decide) ?_
    refine im_l2i (q := 35) D391_34 ?_
    obtain ⟨hg6, hP⟩ := hP
    obtain ⟨hg7, hP⟩ := hP
    refine im_iast (q := 36) D391_35 sf_6955 hg6.1 hg6.2 (by decide) hg7 ?_
    refine im_iinc (q := 39) (i := 4) (L' := [some (.ref 6952), none, none, some (vI p3), some (vI (p4 + 1)), some (vL p5), none]) D391_36 rfl (Nat.le_of_ble_eq_true rfl) rfl ?_
    refine im_ld (q := 41) (i := 5) D391_39 rfl rfl rfl ?_
    refine im_ldc2 (q := 44) (n := 10) D391_41 rfl ?_
    refine im_ldiv (q := 45) D391_44 hg1 (by decide) (by decide) ?_
    refine im_st2 (q := 47) (i := 5) (L' := [some (.ref 6952), none, none, some (vI p3), some (vI (p4 + 1)), some (vL (p5.tdiv 10)), none]) D391_45 (Or.inr rfl) (Nat.le_of_ble_eq_true rfl) rfl ?_
    refine im_goto (q := 50) (t := 11) D391_47 rfl ?_
    exact hP.wk ⟨rfl, rfl, rfl, rfl, trivial⟩
set_option maxRecDepth 20000 in
set_option maxHeartbeats 4000000 in
theorem b_toLong_0 {g : im_g} {d : Nat} {e : im_E} {M : im_M} {K : im_K} {p1 : Int} (hP : (0 ≤ p1 ∧ p1 < 1100000) ∧ ((0 ≤ (M 6955 p1) → (0 ≤ (p1 + 1) ∧ (p1 + 1) < 1100000) ∧ (((M 6955 (p1 + 1)) ≤ 17 → im_T g d 298 44 [some (.ref 6952), some (vI p1), some (vL 0), none, some (vI ((M 6955 (p1 + 1)) - 1))] [] e M K) ∧ (17 < (M 6955 (p1 + 1)) → K (.inl (some (vL 1000000000000001))) e M))) ∧ ((M 6955 p1) < 0 → K (.inl (some (vL (-1)))) e M))) : im_T g d 298 0 [some (.ref 6952), some (vI p1), none, none, none] [] e M K := by
  refine im_ld (q := 1) (i := 0) D298_0 rfl rfl rfl ?_
  refine im_gfR (q := 4) (b := 6955) D298_1 (im_fl cn_298 fl_12_17) sf_6952 rfl rfl tR_12_5 rf_6952_5 ?_
  refine im_ld (q := 5) (i := 1) D298_4 rfl rfl rfl ?_
  obtain ⟨hg1, hP⟩ := hP
  refine im_rng (j := p1) sf_6955 hg1.1 hg1.2 (fun hr2 => ?_)
  refine im_iald (q := 6) D298_5 sf_6955 hg1.1 hg1.2 (by decide) rfl ?_
  refine im_ifc (q := 9) (t := 13) D298_6 rfl hr2 (fun hc3 => ?_) (fun hc3 => ?_)
  · replace hP := hP.1 hc3
    refine im_ld (q := 14) (i := 0) D298_13 rfl rfl rfl ?_
    refine im_gfR (q := 17) (b := 6955) D298_14 (im_fl cn_298 fl_12_17) sf_6952 rfl rfl tR_12_5 rf_6952_5 ?_
    refine im_ld (q := 18) (i := 1) D298_17 rfl rfl rfl ?_
    refine im_iconst (q := 19) D298_18 ?_
    refine im_iadd (q := 20) D298_19 ?_
    obtain ⟨hg4, hP⟩ := hP
    refine im_rng (j := (p1 + 1)) sf_6955 hg4.1 hg4.2 (fun hr5 => ?_)
    refine im_iald (q := 21) D298_20 sf_6955 hg4.1 hg4.2 (by decide) rfl ?_
    refine im_bipush (q := 23) D298_21 rfl ?_
    refine im_icmp (q := 26) (t := 30) D298_23 rfl hr5 (by decide) (fun hc6 => ?_) (fun hc6 => ?_)
    · replace hP := hP.1 hc6
      refine im_lconst (q := 31) (z := 0) D298_30 rfl ?_
      refine im_st2 (q := 32) (i := 2) (L' := [some (.ref 6952), some (vI p1), some (vL 0), none, none]) D298_31 (Or.inl ⟨_, rfl, rfl⟩) (Nat.le_of_ble_eq_true rfl) rfl ?_
      refine im_ld (q := 33) (i := 0) D298_32 rfl rfl rfl ?_
      refine im_gfR (q := 36) (b := 6955) D298_33 (im_fl cn_298 fl_12_17) sf_6952 rfl rfl tR_12_5 rf_6952_5 ?_
      refine im_ld (q := 37) (i := 1) D298_36 rfl rfl rfl ?_
      refine im_iconst (q := 38) D298_37 ?_
      refine im_iadd (q := 39) D298_38 ?_
      refine im_iald (q := 40) D298_39 sf_6955 hg4.1 hg4.2 (by decide) rfl ?_
      refine im_iconst (q := 41) D298_40 ?_
      refine im_isub (q := 42) D298_41 ?_
      refine im_st1 (q := 44) (i := 4) (L' := [some (.ref 6952), some (vI p1), some (vL 0), none, some (vI ((M 6955 (p1 + 1)) - 1))]) D298_42 (Or.inr rfl) (Nat.le_of_ble_eq_true rfl) rfl ?_
      exact hP.wk ⟨rfl, rfl, rfl, rfl, trivial⟩
    · replace hP := hP.2 (Int.not_le.mp hc6)
      refine im_ldc2 (q := 29) (n := 1000000000000001) D298_26 rfl ?_
      exact im_lret (q := 30) D298_29 rfl hP
  · replace hP := hP.2 (Int.not_le.mp hc3)
    refine im_ldc2 (q := 12) (n := (-1)) D298_9 rfl ?_
    exact im_lret (q := 13) D298_12 rfl hP
set_option maxRecDepth 20000 in
set_option maxHeartbeats 4000000 in
theorem b_toLong_44 {g : im_g} {d : Nat} {e : im_E} {M : im_M} {K : im_K} {p1 p2 p4 : Int} (hP : (im_i32 p4) ∧ ((p4 < 0 → K (.inl (some (vL p2))) e M) ∧ (0 ≤ p4 → (0 ≤ ((p1 + 2) + p4) ∧ ((p1 + 2) + p4) < 1100000) ∧ im_T g d 298 44 [some (.ref 6952), some (vI p1), some (vL ((10 * p2) + (M 6955 ((p1 + 2) + p4)))), none, some (vI (p4 + (-1)))] [] e M K))) : im_T g d 298 44 [some (.ref 6952), some (vI p1), some (vL p2), none, some (vI p4)] [] e M K := by
  refine im_ld (q := 46) (i := 4) D298_44 rfl rfl rfl ?_
  obtain ⟨hg1, hP⟩ := hP
  refine im_ifc (q := 49) (t := 74) D298_46 rfl hg1 (fun hc2 => ?_) (fun hc2 => ?_)
  · replace hP := hP.1 hc2
    refine im_ld (q := 75) (i := 2) D298_74 rfl rfl rfl ?_
    exact im_lret (q := 76) D298_75 rfl hP
  · replace hP := hP.2 (Int.not_lt.mp hc2)
    refine im_ldc2 (q := 52) (n := 10) D298_49 rfl ?_
    refine im_ld (q := 53) (i := 2) D298_52 rfl rfl rfl ?_
    refine im_lmul (q := 54) D298_53 ?_
    refine im_ld (q := 55) (i := 0) D298_54 rfl rfl rfl ?_
    refine im_gfR (q := 58) (b := 6955) D298_55 (im_fl cn_298 fl_12_17) sf_6952 rfl rfl tR_12_5 rf_6952_5 ?_
    refine im_ld (q := 59) (i := 1) D298_58 rfl rfl rfl ?_
    refine im_iconst (q := 60) D298_59 ?_
    refine im_iadd (q := 61) D298_60 ?_
    refine im_ld (q := 63) (i := 4) D298_61 rfl rfl rfl ?_
    refine im_iadd (q := 64) D298_63 ?_
    obtain ⟨hg3, hP⟩ := hP
    refine im_rng (j := ((p1 + 2) + p4)) sf_6955 hg3.1 hg3.2 (fun hr4 => ?_)
    refine im_iald (q := 65) D298_64 sf_6955 hg3.1 hg3.2 (by decide) rfl ?_
    refine im_i2l (q := 66) D298_65 hr4 ?_
    refine im_ladd (q := 67) D298_66 ?_
    refine im_st2 (q := 68) (i := 2) (L' := [some (.ref 6952), some (vI p1), some (vL ((10 * p2) + (M 6955 ((p1 + 2) + p4)))), none, some (vI p4)]) D298_67 (Or.inl ⟨_, rfl, rfl⟩) (Nat.le_of_ble_eq_true rfl) rfl ?_
    refine im_iinc (q := 71) (i := 4) (L' := [some (.ref 6952), some (vI p1), some (vL ((10 * p2) + (M 6955 ((p1 + 2) + p4)))), none, some (vI (p4 + (-1)))]) D298_68 rfl (Nat.le_of_ble_eq_true rfl) rfl ?_
    refine im_goto (q := 74) (t := 44) D298_71 rfl ?_
    exact hP.wk ⟨rfl, rfl, rfl, rfl, trivial⟩
set_option maxRecDepth 20000 in
set_option maxHeartbeats 4000000 in
theorem b_copyOf_0 {g : im_g} {d : Nat} {e : im_E} {M : im_M} {K : im_K} {p1 : Int} (hP : (0 ≤ (p1 + 1) ∧ (p1 + 1) < 1100000) ∧ im_T g d 373 17 [some (.ref 6952), some (vI p1), some (vI (M 6955 (p1 + 1))), some (vI (M 6952 7)), some (vI 0)] [] e M K) : im_T g d 373 0 [some (.ref 6952), some (vI p1), none, none, none] [] e M K := by
  refine im_ld (q := 1) (i := 0) D373_0 rfl rfl rfl ?_
  refine im_gfR (q := 4) (b := 6955) D373_1 (im_fl cn_373 fl_12_17) sf_6952 rfl rfl tR_12_5 rf_6952_5 ?_
  refine im_ld (q := 5) (i := 1) D373_4 rfl rfl rfl ?_
  refine im_iconst (q := 6) D373_5 ?_
  refine im_iadd (q := 7) D373_6 ?_
  obtain ⟨hg1, hP⟩ := hP
  refine im_rng (j := (p1 + 1)) sf_6955 hg1.1 hg1.2 (fun hr2 => ?_)
  refine im_iald (q := 8) D373_7 sf_6955 hg1.1 hg1.2 (by decide) rfl ?_
  refine im_st1 (q := 9) (i := 2) (L' := [some (.ref 6952), some (vI p1), some (vI (M 6955 (p1 + 1))), none, none]) D373_8 (Or.inl ⟨_, rfl, rfl⟩) (Nat.le_of_ble_eq_true rfl) rfl ?_
  refine im_ld (q := 10) (i := 0) D373_9 rfl rfl rfl ?_
  refine im_rng (j := 7) sf_6952 (by decide) (by decide) (fun hr3 => ?_)
  refine im_gfI (q := 13) D373_10 (im_fl cn_373 fl_12_449) sf_6952 rfl rfl tI_12_7 rfl ?_
  refine im_st1 (q := 14) (i := 3) (L' := [some (.ref 6952), some (vI p1), some (vI (M 6955 (p1 + 1))), some (vI (M 6952 7)), none]) D373_13 (Or.inl ⟨_, rfl, rfl⟩) (Nat.le_of_ble_eq_true rfl) rfl ?_
  refine im_iconst (q := 15) D373_14 ?_
  refine im_st1 (q := 17) (i := 4) (L' := [some (.ref 6952), some (vI p1), some (vI (M 6955 (p1 + 1))), some (vI (M 6952 7)), some (vI 0)]) D373_15 (Or.inr rfl) (Nat.le_of_ble_eq_true rfl) rfl ?_
  exact hP.wk ⟨rfl, rfl, rfl, rfl, rfl, trivial⟩
set_option maxRecDepth 20000 in
set_option maxHeartbeats 4000000 in
theorem b_copyOf_17 {g : im_g} {d : Nat} {e : im_E} {M : im_M} {K : im_K} {p1 p2 p3 p4 : Int} (hP : (im_i32 p4) ∧ (im_i32 (p2 + 2)) ∧ (((p2 + 2) ≤ p4 → (im_i32 ((p3 + p2) + 2)) ∧ K (.inl (some (vI p3))) e (im_u M 6952 7 ((p3 + p2) + 2))) ∧ (p4 < (p2 + 2) → (0 ≤ (p1 + p4) ∧ (p1 + p4) < 1100000) ∧ (0 ≤ (p3 + p4) ∧ (p3 + p4) < 1100000) ∧ im_T g d 373 17 [some (.ref 6952), some (vI p1), some (vI p2), some (vI p3), some (vI (p4 + 1))] [] e (im_u M 6955 (p3 + p4) (M 6955 (p1 + p4))) K))) : im_T g d 373 17 [some (.ref 6952), some (vI p1), some (vI p2), some (vI p3), some (vI p4)] [] e M K := by
  refine im_ld (q := 19) (i := 4) D373_17 rfl rfl rfl ?_
  refine im_ld (q := 20) (i := 2) D373_19 rfl rfl rfl ?_
  refine im_iconst (q := 21) D373_20 ?_
  refine im_iadd (q := 22) D373_21 ?_
  obtain ⟨hg1, hP⟩ := hP
  obtain ⟨hg2, hP⟩ := hP
  refine im_icmp (q := 25) (t := 49) D373_22 rfl hg1 hg2 (fun hc3 => ?_) (fun hc3 => ?_)
  · replace hP := hP.1 hc3
    refine im_ld (q := 50) (i := 0) D373_49 rfl rfl rfl ?_
    refine im_ld (q := 51) (i := 3) D373_50 rfl rfl rfl ?_
    refine im_ld (q := 52) (i := 2) D373_51 rfl rfl rfl ?_
    refine im_iadd (q := 53) D373_52 ?_
    refine im_iconst (q := 54) D373_53 ?_
    refine im_iadd (q := 55) D373_54 ?_
    obtain ⟨hg6, hP⟩ := hP
    refine im_pfI (q := 58) D373_55 (im_fl cn_373 fl_12_449) sf_6952 rfl rfl ti_12_7 hg6 ?_
    refine im_ld (q := 59) (i := 3) D373_58 rfl rfl rfl ?_
    exact im_iret (q := 60) D373_59 rfl hP
  · replace hP := hP.2 (Int.not_le.mp hc3)
    refine im_ld (q := 26) (i := 0) D373_25 rfl rfl rfl ?_
    refine im_gfR (q := 29) (b := 6955) D373_26 (im_fl cn_373 fl_12_17) sf_6952 rfl rfl tR_12_5 rf_6952_5 ?_
    refine im_ld (q := 30) (i := 3) D373_29 rfl rfl rfl ?_
    refine im_ld (q := 32) (i := 4) D373_30 rfl rfl rfl ?_
    refine im_iadd (q := 33) D373_32 ?_
    refine im_ld (q := 34) (i := 0) D373_33 rfl rfl rfl ?_
    refine im_gfR (q := 37) (b := 6955) D373_34 (im_fl cn_373 fl_12_17) sf_6952 rfl rfl tR_12_5 rf_6952_5 ?_
    refine im_ld (q := 38) (i := 1) D373_37 rfl rfl rfl ?_
    refine im_ld (q := 40) (i := 4) D373_38 rfl rfl rfl ?_
    refine im_iadd (q := 41) D373_40 ?_
    obtain ⟨hg4, hP⟩ := hP
    refine im_rng (j := (p1 + p4)) sf_6955 hg4.1 hg4.2 (fun hr5 => ?_)
    refine im_iald (q := 42) D373_41 sf_6955 hg4.1 hg4.2 (by decide) rfl ?_
    obtain ⟨hg7, hP⟩ := hP
    refine im_iast (q := 43) D373_42 sf_6955 hg7.1 hg7.2 (by decide) hr5 ?_
    refine im_iinc (q := 46) (i := 4) (L' := [some (.ref 6952), some (vI p1), some (vI p2), some (vI p3), some (vI (p4 + 1))]) D373_43 rfl (Nat.le_of_ble_eq_true rfl) rfl ?_
    refine im_goto (q := 49) (t := 17) D373_46 rfl ?_
    exact hP.wk ⟨rfl, rfl, rfl, rfl, rfl, trivial⟩
set_option maxRecDepth 20000 in
set_option maxHeartbeats 4000000 in
theorem b_digit_0 {g : im_g} {d : Nat} {e : im_E} {M : im_M} {K : im_K} {p1 p2 : Int} (hP : (0 ≤ (p1 + 1) ∧ (p1 + 1) < 1100000) ∧ (im_i32 p2) ∧ ((((p2 < (M 6955 (p1 + 1)) → (0 ≤ ((p1 + 2) + p2) ∧ ((p1 + 2) + p2) < 1100000)))) ∧ (∀ x7 : Int, ((((M 6955 (p1 + 1)) ≤ p2) ∧ x7 = 0) ∨ ((p2 < (M 6955 (p1 + 1))) ∧ x7 = (M 6955 ((p1 + 2) + p2)))) → K (.inl (some (vI x7))) e M))) : im_T g d 304 0 [some (.ref 6952), some (vI p1), some (vI p2)] [] e M K := by
  refine im_ld (q := 1) (i := 2) D304_0 rfl rfl rfl ?_
  refine im_ld (q := 2) (i := 0) D304_1 rfl rfl rfl ?_
  refine im_gfR (q := 5) (b := 6955) D304_2 (im_fl cn_304 fl_12_17) sf_6952 rfl rfl tR_12_5 rf_6952_5 ?_
  refine im_ld (q := 6) (i := 1) D304_5 rfl rfl rfl ?_
  refine im_iconst (q := 7) D304_6 ?_
  refine im_iadd (q := 8) D304_7 ?_
  obtain ⟨hg1, hP⟩ := hP
  refine im_rng (j := (p1 + 1)) sf_6955 hg1.1 hg1.2 (fun hr2 => ?_)
  refine im_iald (q := 9) D304_8 sf_6955 hg1.1 hg1.2 (by decide) rfl ?_
  obtain ⟨hg3, hP⟩ := hP
  obtain ⟨hP, hJ8⟩ := hP
  have kJ9 : ∀ x7 : Int, ((((M 6955 (p1 + 1)) ≤ p2) ∧ x7 = 0) ∨ ((p2 < (M 6955 (p1 + 1))) ∧ x7 = (M 6955 ((p1 + 2) + p2)))) → im_T g d 304 26 [none, none, none] [vI x7] e M K := by
    intro x7 hx10
    have hP := hJ8 x7 hx10
    exact im_iret (q := 27) D304_26 rfl hP
  refine im_icmp (q := 12) (t := 25) D304_9 rfl hg3 hr2 (fun hc4 => ?_) (fun hc4 => ?_)
  · refine im_iconst (q := 26) D304_25 ?_
    exact (kJ9 (0) (Or.inl ⟨hc4, rfl⟩)).wk trivial
  · replace hP := hP (Int.not_le.mp hc4)
    refine im_ld (q := 13) (i := 0) D304_12 rfl rfl rfl ?_
    refine im_gfR (q := 16) (b := 6955) D304_13 (im_fl cn_304 fl_12_17) sf_6952 rfl rfl tR_12_5 rf_6952_5 ?_
    refine im_ld (q := 17) (i := 1) D304_16 rfl rfl rfl ?_
    refine im_iconst (q := 18) D304_17 ?_
    refine im_iadd (q := 19) D304_18 ?_
    refine im_ld (q := 20) (i := 2) D304_19 rfl rfl rfl ?_
    refine im_iadd (q := 21) D304_20 ?_
    have hg5 := hP
    refine im_rng (j := ((p1 + 2) + p2)) sf_6955 hg5.1 hg5.2 (fun hr6 => ?_)
    refine im_iald (q := 22) D304_21 sf_6955 hg5.1 hg5.2 (by decide) rfl ?_
    refine im_goto (q := 25) (t := 26) D304_22 rfl ?_
    exact (kJ9 ((M 6955 ((p1 + 2) + p2))) (Or.inr ⟨(Int.not_le.mp hc4), rfl⟩)).wk trivial
set_option maxRecDepth 20000 in
set_option maxHeartbeats 4000000 in
theorem b_sizes_0 {g : im_g} {d : Nat} {e : im_E} {M : im_M} {K : im_K} {p1 p2 : Int} (hP : (0 ≤ (p1 + 1) ∧ (p1 + 1) < 1100000) ∧ (0 ≤ (p2 + 1) ∧ (p2 + 1) < 1100000) ∧ ((∀ x8 : Int, ((((M 6955 (p1 + 1)) ≤ (M 6955 (p2 + 1))) ∧ x8 = (M 6955 (p2 + 1))) ∨ (((M 6955 (p2 + 1)) < (M 6955 (p1 + 1))) ∧ x8 = (M 6955 (p1 + 1)))) → im_T g d 303 44 [some (.ref 6952), some (vI p1), some (vI p2), none, some (vI (x8 - 1))] [] e M K))) : im_T g d 303 0 [some (.ref 6952), some (vI p1), some (vI p2), none, none] [] e M K := by
  refine im_ld (q := 1) (i := 0) D303_0 rfl rfl rfl ?_
  refine im_gfR (q := 4) (b := 6955) D303_1 (im_fl cn_303 fl_12_17) sf_6952 rfl rfl tR_12_5 rf_6952_5 ?_
  refine im_ld (q := 5) (i := 1) D303_4 rfl rfl rfl ?_
  refine im_iconst (q := 6) D303_5 ?_
  refine im_iadd (q := 7) D303_6 ?_
  obtain ⟨hg1, hP⟩ := hP
  refine im_rng (j := (p1 + 1)) sf_6955 hg1.1 hg1.2 (fun hr2 => ?_)
  refine im_iald (q := 8) D303_7 sf_6955 hg1.1 hg1.2 (by decide) rfl ?_
  refine im_ld (q := 9) (i := 0) D303_8 rfl rfl rfl ?_
  refine im_gfR (q := 12) (b := 6955) D303_9 (im_fl cn_303 fl_12_17) sf_6952 rfl rfl tR_12_5 rf_6952_5 ?_
  refine im_ld (q := 13) (i := 2) D303_12 rfl rfl rfl ?_
  refine im_iconst (q := 14) D303_13 ?_
  refine im_iadd (q := 15) D303_14 ?_
  obtain ⟨hg3, hP⟩ := hP
  refine im_rng (j := (p2 + 1)) sf_6955 hg3.1 hg3.2 (fun hr4 => ?_)
  refine im_iald (q := 16) D303_15 sf_6955 hg3.1 hg3.2 (by decide) rfl ?_
  have hJ9 := hP
  have kJ10 : ∀ x8 : Int, ((((M 6955 (p1 + 1)) ≤ (M 6955 (p2 + 1))) ∧ x8 = (M 6955 (p2 + 1))) ∨ (((M 6955 (p2 + 1)) < (M 6955 (p1 + 1))) ∧ x8 = (M 6955 (p1 + 1)))) → im_T g d 303 38 [some (.ref 6952), some (vI p1), some (vI p2), none, none] [vI x8] e M K := by
    intro x8 hx11
    have hP := hJ9 x8 hx11
    refine im_st1 (q := 39) (i := 3) (L' := [some (.ref 6952), some (vI p1), some (vI p2), some (vI x8), none]) D303_38 (Or.inl ⟨_, rfl, rfl⟩) (Nat.le_of_ble_eq_true rfl) rfl ?_
    refine im_ld (q := 40) (i := 3) D303_39 rfl rfl rfl ?_
    refine im_iconst (q := 41) D303_40 ?_
    refine im_isub (q := 42) D303_41 ?_
    refine im_st1 (q := 44) (i := 4) (L' := [some (.ref 6952), some (vI p1), some (vI p2), some (vI x8), some (vI (x8 - 1))]) D303_42 (Or.inr rfl) (Nat.le_of_ble_eq_true rfl) rfl ?_
    exact hP.wk ⟨rfl, rfl, rfl, rfl, trivial⟩
  refine im_icmp (q := 19) (t := 30) D303_16 rfl hr2 hr4 (fun hc5 => ?_) (fun hc5 => ?_)
  · refine im_ld (q := 31) (i := 0) D303_30 rfl rfl rfl ?_
    refine im_gfR (q := 34) (b := 6955) D303_31 (im_fl cn_303 fl_12_17) sf_6952 rfl rfl tR_12_5 rf_6952_5 ?_
    refine im_ld (q := 35) (i := 2) D303_34 rfl rfl rfl ?_
    refine im_iconst (q := 36) D303_35 ?_
    refine im_iadd (q := 37) D303_36 ?_
    refine im_iald (q := 38) D303_37 sf_6955 hg3.1 hg3.2 (by decide) rfl ?_
    exact (kJ10 ((M 6955 (p2 + 1))) (Or.inl ⟨hc5, rfl⟩)).wk ⟨rfl, rfl, rfl, trivial⟩
  · refine im_ld (q := 20) (i := 0) D303_19 rfl rfl rfl ?_
    refine im_gfR (q := 23) (b := 6955) D303_20 (im_fl cn_303 fl_12_17) sf_6952 rfl rfl tR_12_5 rf_6952_5 ?_
    refine im_ld (q := 24) (i := 1) D303_23 rfl rfl rfl ?_
    refine im_iconst (q := 25) D303_24 ?_
    refine im_iadd (q := 26) D303_25 ?_
    refine im_iald (q := 27) D303_26 sf_6955 hg1.1 hg1.2 (by decide) rfl ?_
    refine im_goto (q := 30) (t := 38) D303_27 rfl ?_
    exact (kJ10 ((M 6955 (p1 + 1))) (Or.inr ⟨(Int.not_le.mp hc5), rfl⟩)).wk ⟨rfl, rfl, rfl, trivial⟩
set_option maxRecDepth 20000 in
set_option maxHeartbeats 4000000 in
theorem b_sizes_44 {g : im_g} {d : Nat} {e : im_E} {M : im_M} {K : im_K} {p1 p2 p4 : Int} (hd : 1 ≤ d) (hP : (im_i32 p4) ∧ ((p4 < 0 → K (.inl (some (vI 0))) e M) ∧ (0 ≤ p4 → im_T g (d - 1) 304 0 [some (.ref 6952), some (vI p1), some (vI p4)] [] e M (im_ri (fun x4 e_ M3 => e = e_ ∧ im_T g (d - 1) 304 0 [some (.ref 6952), some (vI p2), some (vI p4)] [] e M3 (im_ri (fun x6 e_ M5 => e = e_ ∧ (im_i32 x4) ∧ (im_i32 x6) ∧ ((x4 = x6 → im_T g d 303 44 [some (.ref 6952), some (vI p1), some (vI p2), none, some (vI (p4 + (-1)))] [] e M5 K) ∧ (¬ x4 = x6 → im_T g (d - 1) 304 0 [some (.ref 6952), some (vI p1), some (vI p4)] [] e M5 (im_ri (fun x11 e_ M10 => e = e_ ∧ im_T g (d - 1) 304 0 [some (.ref 6952), some (vI p2), some (vI p4)] [] e M10 (im_ri (fun x13 e_ M12 => e = e_ ∧ (im_i32 x11) ∧ (im_i32 x13) ∧ ((∀ x17 : Int, (((x13 ≤ x11) ∧ x17 = 1) ∨ ((x11 < x13) ∧ x17 = (-1))) → K (.inl (some (vI x17))) e M12))))))))))))))) : im_T g d 303 44 [some (.ref 6952), some (vI p1), some (vI p2), none, some (vI p4)] [] e M K := by
  refine im_ld (q := 46) (i := 4) D303_44 rfl rfl rfl ?_
  obtain ⟨hg1, hP⟩ := hP
  refine im_ifc (q := 49) (t := 95) D303_46 rfl hg1 (fun hc2 => ?_) (fun hc2 => ?_)
  · replace hP := hP.1 hc2
    refine im_iconst (q := 96) D303_95 ?_
    exact im_iret (q := 97) D303_96 rfl hP
  · replace hP := hP.2 (Int.not_lt.mp hc2)
    refine im_ld (q := 50) (i := 0) D303_49 rfl rfl rfl ?_
    refine im_ld (q := 51) (i := 1) D303_50 rfl rfl rfl ?_
    refine im_ld (q := 53) (i := 4) D303_51 rfl rfl rfl ?_
    refine im_callV (q := 56) (kd := 1) (y := 304) (n := 2) (ci := 12) (a := 6952) (vs := [.ref 6952, vI p1, vI p4]) (r := []) (L2 := [some (.ref 6952), some (vI p1), some (vI p4)]) D303_53 (im_cal cn_303 cl_12_463) (Or.inl rfl) rfl sf_6952 rfl rfl rfl rfl hd ⟨rfl, rfl, rfl, trivial⟩ ?_
    refine hP.mono ?_
    rintro _ e24 M3 ⟨x4, rfl, rfl, hP⟩
    refine im_bkS ?_
    refine im_ld (q := 57) (i := 0) D303_56 rfl rfl rfl ?_
    refine im_ld (q := 58) (i := 2) D303_57 rfl rfl rfl ?_
    refine im_ld (q := 60) (i := 4) D303_58 rfl rfl rfl ?_
    refine im_callV (q := 63) (kd := 1) (y := 304) (n := 2) (ci := 12) (a := 6952) (vs := [.ref 6952, vI p2, vI p4]) (r := [vI x4]) (L2 := [some (.ref 6952), some (vI p2), some (vI p4)]) D303_60 (im_cal cn_303 cl_12_463) (Or.inl rfl) rfl sf_6952 rfl rfl rfl rfl hd ⟨rfl, rfl, rfl, trivial⟩ ?_
    refine hP.mono ?_
    rintro _ e23 M5 ⟨x6, rfl, rfl, hP⟩
    refine im_bkS ?_
    obtain ⟨hg7, hP⟩ := hP
    obtain ⟨hg8, hP⟩ := hP
    refine im_icmp (q := 66) (t := 89) D303_63 rfl hg7 hg8 (fun hc9 => ?_) (fun hc9 => ?_)
    · replace hP := hP.1 hc9
      refine im_iinc (q := 92) (i := 4) (L' := [some (.ref 6952), some (vI p1), some (vI p2), none, some (vI (p4 + (-1)))]) D303_89 rfl (Nat.le_of_ble_eq_true rfl) rfl ?_
      refine im_goto (q := 95) (t := 44) D303_92 rfl ?_
      exact hP.wk ⟨rfl, rfl, rfl, rfl, trivial⟩
    · replace hP := hP.2 hc9
      refine im_ld (q := 67) (i := 0) D303_66 rfl rfl rfl ?_
      refine im_ld (q := 68) (i := 1) D303_67 rfl rfl rfl ?_
      refine im_ld (q := 70) (i := 4) D303_68 rfl rfl rfl ?_
      refine im_callV (q := 73) (kd := 1) (y := 304) (n := 2) (ci := 12) (a := 6952) (vs := [.ref 6952, vI p1, vI p4]) (r := []) (L2 := [some (.ref 6952), some (vI p1), some (vI p4)]) D303_70 (im_cal cn_303 cl_12_463) (Or.inl rfl) rfl sf_6952 rfl rfl rfl rfl hd ⟨rfl, rfl, rfl, trivial⟩ ?_
      refine hP.mono ?_
      rintro _ e22 M10 ⟨x11, rfl, rfl, hP⟩
      refine im_bkS ?_
      refine im_ld (q := 74) (i := 0) D303_73 rfl rfl rfl ?_
      refine im_ld (q := 75) (i := 2) D303_74 rfl rfl rfl ?_
      refine im_ld (q := 77) (i := 4) D303_75 rfl rfl rfl ?_
      refine im_callV (q := 80) (kd := 1) (y := 304) (n := 2) (ci := 12) (a := 6952) (vs := [.ref 6952, vI p2, vI p4]) (r := [vI x11]) (L2 := [some (.ref 6952), some (vI p2), some (vI p4)]) D303_77 (im_cal cn_303 cl_12_463) (Or.inl rfl) rfl sf_6952 rfl rfl rfl rfl hd ⟨rfl, rfl, rfl, trivial⟩ ?_
      refine hP.mono ?_
      rintro _ e21 M12 ⟨x13, rfl, rfl, hP⟩
      refine im_bkS ?_
      obtain ⟨hg14, hP⟩ := hP
      obtain ⟨hg15, hP⟩ := hP
      have hJ18 := hP
      have kJ19 : ∀ x17 : Int, (((x13 ≤ x11) ∧ x17 = 1) ∨ ((x11 < x13) ∧ x17 = (-1))) → im_T g d 303 88 [none, none, none, none, none] [vI x17] e M12 K := by
        intro x17 hx20
        have hP := hJ18 x17 hx20
        exact im_iret (q := 89) D303_88 rfl hP
      refine im_icmp (q := 83) (t := 87) D303_80 rfl hg14 hg15 (fun hc16 => ?_) (fun hc16 => ?_)
      · refine im_iconst (q := 88) D303_87 ?_
        exact (kJ19 (1) (Or.inl ⟨hc16, rfl⟩)).wk trivial
      · refine im_iconst (q := 84) D303_83 ?_
        refine im_goto (q := 87) (t := 88) D303_84 rfl ?_
        exact (kJ19 ((-1)) (Or.inr ⟨(Int.not_le.mp hc16), rfl⟩)).wk trivial
set_option maxRecDepth 20000 in
set_option maxHeartbeats 4000000 in
theorem b_order_0 {g : im_g} {d : Nat} {e : im_E} {M : im_M} {K : im_K} {p1 p2 : Int} (hd : 1 ≤ d) (hP : (0 ≤ p1 ∧ p1 < 1100000) ∧ (0 ≤ p2 ∧ p2 < 1100000) ∧ (((((M 6955 p1) = (M 6955 p2) → ((0 ≤ (M 6955 p1) → im_T g (d - 1) 303 0 [some (.ref 6952), some (vI p1), some (vI p2), none, none] [] e M (im_ri (fun x16 e_ M15 => e = e_ ∧ K (.inl (some (vI x16))) e M15))) ∧ ((M 6955 p1) < 0 → im_T g (d - 1) 303 0 [some (.ref 6952), some (vI p2), some (vI p1), none, none] [] e M (im_ri (fun x19 e_ M18 => e = e_ ∧ K (.inl (some (vI x19))) e M18))))))) ∧ (∀ x11 : Int, (((¬ (M 6955 p1) = (M 6955 p2)) ∧ ((M 6955 p2) ≤ (M 6955 p1)) ∧ x11 = 1) ∨ ((¬ (M 6955 p1) = (M 6955 p2)) ∧ ((M 6955 p1) < (M 6955 p2)) ∧ x11 = (-1))) → K (.inl (some (vI x11))) e M))) : im_T g d 302 0 [some (.ref 6952), some (vI p1), some (vI p2)] [] e M K := by
  refine im_ld (q := 1) (i := 0) D302_0 rfl rfl rfl ?_
  refine im_gfR (q := 4) (b := 6955) D302_1 (im_fl cn_302 fl_12_17) sf_6952 rfl rfl tR_12_5 rf_6952_5 ?_
  refine im_ld (q := 5) (i := 1) D302_4 rfl rfl rfl ?_
  obtain ⟨hg1, hP⟩ := hP
  refine im_rng (j := p1) sf_6955 hg1.1 hg1.2 (fun hr2 => ?_)
  refine im_iald (q := 6) D302_5 sf_6955 hg1.1 hg1.2 (by decide) rfl ?_
  refine im_ld (q := 7) (i := 0) D302_6 rfl rfl rfl ?_
  refine im_gfR (q := 10) (b := 6955) D302_7 (im_fl cn_302 fl_12_17) sf_6952 rfl rfl tR_12_5 rf_6952_5 ?_
  refine im_ld (q := 11) (i := 2) D302_10 rfl rfl rfl ?_
  obtain ⟨hg3, hP⟩ := hP
  refine im_rng (j := p2) sf_6955 hg3.1 hg3.2 (fun hr4 => ?_)
  refine im_iald (q := 12) D302_11 sf_6955 hg3.1 hg3.2 (by decide) rfl ?_
  obtain ⟨hP, hJ12⟩ := hP
  have kJ13 : ∀ x11 : Int, (((¬ (M 6955 p1) = (M 6955 p2)) ∧ ((M 6955 p2) ≤ (M 6955 p1)) ∧ x11 = 1) ∨ ((¬ (M 6955 p1) = (M 6955 p2)) ∧ ((M 6955 p1) < (M 6955 p2)) ∧ x11 = (-1))) → im_T g d 302 35 [none, none, none] [vI x11] e M K := by
    intro x11 hx14
    have hP := hJ12 x11 hx14
    exact im_iret (q := 36) D302_35 rfl hP
  refine im_icmp (q := 15) (t := 36) D302_12 rfl hr2 hr4 (fun hc5 => ?_) (fun hc5 => ?_)
  · replace hP := hP hc5
    refine im_ld (q := 37) (i := 0) D302_36 rfl rfl rfl ?_
    refine im_gfR (q := 40) (b := 6955) D302_37 (im_fl cn_302 fl_12_17) sf_6952 rfl rfl tR_12_5 rf_6952_5 ?_
    refine im_ld (q := 41) (i := 1) D302_40 rfl rfl rfl ?_
    refine im_iald (q := 42) D302_41 sf_6955 hg1.1 hg1.2 (by decide) rfl ?_
    refine im_ifc (q := 45) (t := 54) D302_42 rfl hr2 (fun hc7 => ?_) (fun hc7 => ?_)
    · replace hP := hP.1 hc7
      refine im_ld (q := 55) (i := 0) D302_54 rfl rfl rfl ?_
      refine im_ld (q := 56) (i := 1) D302_55 rfl rfl rfl ?_
      refine im_ld (q := 57) (i := 2) D302_56 rfl rfl rfl ?_
      refine im_callV (q := 60) (kd := 1) (y := 303) (n := 2) (ci := 12) (a := 6952) (vs := [.ref 6952, vI p1, vI p2]) (r := []) (L2 := [some (.ref 6952), some (vI p1), some (vI p2), none, none]) D302_57 (im_cal cn_302 cl_12_467) (Or.inl rfl) rfl sf_6952 rfl rfl rfl rfl hd ⟨rfl, rfl, rfl, trivial⟩ ?_
      refine hP.mono ?_
      rintro _ e17 M15 ⟨x16, rfl, rfl, hP⟩
      refine im_bkS ?_
      exact im_iret (q := 61) D302_60 rfl hP
    · replace hP := hP.2 (Int.not_le.mp hc7)
      refine im_ld (q := 46) (i := 0) D302_45 rfl rfl rfl ?_
      refine im_ld (q := 47) (i := 2) D302_46 rfl rfl rfl ?_
      refine im_ld (q := 48) (i := 1) D302_47 rfl rfl rfl ?_
      refine im_callV (q := 51) (kd := 1) (y := 303) (n := 2) (ci := 12) (a := 6952) (vs := [.ref 6952, vI p2, vI p1]) (r := []) (L2 := [some (.ref 6952), some (vI p2), some (vI p1), none, none]) D302_48 (im_cal cn_302 cl_12_467) (Or.inl rfl) rfl sf_6952 rfl rfl rfl rfl hd ⟨rfl, rfl, rfl, trivial⟩ ?_
      refine hP.mono ?_
      rintro _ e20 M18 ⟨x19, rfl, rfl, hP⟩
      refine im_bkS ?_
      refine im_goto (q := 54) (t := 60) D302_51 rfl ?_
      exact im_iret (q := 61) D302_60 rfl hP
  · refine im_ld (q := 16) (i := 0) D302_15 rfl rfl rfl ?_
    refine im_gfR (q := 19) (b := 6955) D302_16 (im_fl cn_302 fl_12_17) sf_6952 rfl rfl tR_12_5 rf_6952_5 ?_
    refine im_ld (q := 20) (i := 1) D302_19 rfl rfl rfl ?_
    refine im_iald (q := 21) D302_20 sf_6955 hg1.1 hg1.2 (by decide) rfl ?_
    refine im_ld (q := 22) (i := 0) D302_21 rfl rfl rfl ?_
    refine im_gfR (q := 25) (b := 6955) D302_22 (im_fl cn_302 fl_12_17) sf_6952 rfl rfl tR_12_5 rf_6952_5 ?_
    refine im_ld (q := 26) (i := 2) D302_25 rfl rfl rfl ?_
    refine im_iald (q := 27) D302_26 sf_6955 hg3.1 hg3.2 (by decide) rfl ?_
    refine im_icmp (q := 30) (t := 34) D302_27 rfl hr2 hr4 (fun hc10 => ?_) (fun hc10 => ?_)
    · refine im_iconst (q := 35) D302_34 ?_
      exact (kJ13 (1) (Or.inl ⟨hc5, hc10, rfl⟩)).wk trivial
    · refine im_iconst (q := 31) D302_30 ?_
      refine im_goto (q := 34) (t := 35) D302_31 rfl ?_
      exact (kJ13 ((-1)) (Or.inr ⟨hc5, (Int.not_le.mp hc10), rfl⟩)).wk trivial
set_option maxRecDepth 20000 in
set_option maxHeartbeats 4000000 in
theorem b_plus_0 {g : im_g} {d : Nat} {e : im_E} {M : im_M} {K : im_K} {p1 p2 p3 : Int} (hd : 1 ≤ d) (hP : (0 ≤ p2 ∧ p2 < 1100000) ∧ (im_i32 ((M 6955 p2) * p3)) ∧ ((((¬ ((M 6955 p2) * p3) = 0 → (0 ≤ (p1 + 1) ∧ (p1 + 1) < 1100000) ∧ (0 ≤ (p2 + 1) ∧ (p2 + 1) < 1100000)) ∧ (((M 6955 p2) * p3) = 0 → im_T g (d - 1) 373 0 [some (.ref 6952), some (vI p1), none, none, none] [] e M (im_ri (fun x45 e_ M44 => e = e_ ∧ K (.inl (some (vI x45))) e M44))))) ∧ (∀ x12 : Int, (((¬ ((M 6955 p2) * p3) = 0) ∧ ((M 6955 (p1 + 1)) ≤ (M 6955 (p2 + 1))) ∧ x12 = (M 6955 (p2 + 1))) ∨ ((¬ ((M 6955 p2) * p3) = 0) ∧ ((M 6955 (p2 + 1)) < (M 6955 (p1 + 1))) ∧ x12 = (M 6955 (p1 + 1)))) → (0 ≤ p1 ∧ p1 < 1100000) ∧ ((((¬ (M 6955 p1) = 0 → ((¬ (M 6955 p1) = ((M 6955 p2) * p3) → im_T g (d - 1) 303 0 [some (.ref 6952), some (vI p1), some (vI p2), none, none] [] e M (im_ri (fun x26 e_ M25 => e = e_ ∧ (im_i32 x26) ∧ ((∀ x29 : Int, (((x26 < 0) ∧ x29 = 0) ∨ ((0 ≤ x26) ∧ x29 = 1)) → ((∀ x34 : Int, (((x29 = 0) ∧ x34 = p2) ∨ ((¬ x29 = 0) ∧ x34 = p1)) → ((∀ x39 : Int, (((x29 = 0) ∧ x39 = p1) ∨ ((¬ x29 = 0) ∧ x39 = p2)) → im_T g d 372 209 [some (.ref 6952), some (vI p1), none, none, some (vI ((M 6955 p2) * p3)), some (vI x12), some (vI (M 6952 7)), some (vI x29), some (vI x34), some (vI x39), some (vI 0), some (vI 0), none] [] e M25 K))))))))))))) ∧ (((((M 6955 p1) = 0)) ∨ ((¬ (M 6955 p1) = 0) ∧ ((M 6955 p1) = ((M 6955 p2) * p3)))) → im_T g d 372 93 [some (.ref 6952), some (vI p1), some (vI p2), none, some (vI ((M 6955 p2) * p3)), some (vI x12), some (vI (M 6952 7)), some (vI 0), some (vI 0), none, none, none, none] [] e M K))))) : im_T g d 372 0 [some (.ref 6952), some (vI p1), some (vI p2), some (vI p3), none, none, none, none, none, none, none, none, none] [] e M K := by
  refine im_ld (q := 1) (i := 0) D372_0 rfl rfl rfl ?_
  refine im_gfR (q := 4) (b := 6955) D372_1 (im_fl cn_372 fl_12_17) sf_6952 rfl rfl tR_12_5 rf_6952_5 ?_
  refine im_ld (q := 5) (i := 2) D372_4 rfl rfl rfl ?_
  obtain ⟨hg1, hP⟩ := hP
  refine im_rng (j := p2) sf_6955 hg1.1 hg1.2 (fun hr2 => ?_)
  refine im_iald (q := 6) D372_5 sf_6955 hg1.1 hg1.2 (by decide) rfl ?_
  refine im_ld (q := 7) (i := 3) D372_6 rfl rfl rfl ?_
  refine im_imul (q := 8) D372_7 ?_
  refine im_st1 (q := 10) (i := 4) (L' := [some (.ref 6952), some (vI p1), some (vI p2), some (vI p3), some (vI ((M 6955 p2) * p3)), none, none, none, none, none, none, none, none]) D372_8 (Or.inr rfl) (Nat.le_of_ble_eq_true rfl) rfl ?_
  refine im_ld (q := 12) (i := 4) D372_10 rfl rfl rfl ?_
  obtain ⟨hg3, hP⟩ := hP
  obtain ⟨hP, hJ13⟩ := hP
  have kJ14 : ∀ x12 : Int, (((¬ ((M 6955 p2) * p3) = 0) ∧ ((M 6955 (p1 + 1)) ≤ (M 6955 (p2 + 1))) ∧ x12 = (M 6955 (p2 + 1))) ∨ ((¬ ((M 6955 p2) * p3) = 0) ∧ ((M 6955 (p2 + 1)) < (M 6955 (p1 + 1))) ∧ x12 = (M 6955 (p1 + 1)))) → im_T g d 372 59 [some (.ref 6952), some (vI p1), some (vI p2), none, some (vI ((M 6955 p2) * p3)), none, none, none, none, none, none, none, none] [vI x12] e M K := by
    intro x12 hx15
    have hP := hJ13 x12 hx15
    refine im_st1 (q := 61) (i := 5) (L' := [some (.ref 6952), some (vI p1), some (vI p2), none, some (vI ((M 6955 p2) * p3)), some (vI x12), none, none, none, none, none, none, none]) D372_59 (Or.inr rfl) (Nat.le_of_ble_eq_true rfl) rfl ?_
    refine im_ld (q := 62) (i := 0) D372_61 rfl rfl rfl ?_
    refine im_rng (j := 7) sf_6952 (by decide) (by decide) (fun hr16 => ?_)
    refine im_gfI (q := 65) D372_62 (im_fl cn_372 fl_12_449) sf_6952 rfl rfl tI_12_7 rfl ?_
    refine im_st1 (q := 67) (i := 6) (L' := [some (.ref 6952), some (vI p1), some (vI p2), none, some (vI ((M 6955 p2) * p3)), some (vI x12), some (vI (M 6952 7)), none, none, none, none, none, none]) D372_65 (Or.inr rfl) (Nat.le_of_ble_eq_true rfl) rfl ?_
    refine im_ld (q := 68) (i := 0) D372_67 rfl rfl rfl ?_
    refine im_gfR (q := 71) (b := 6955) D372_68 (im_fl cn_372 fl_12_17) sf_6952 rfl rfl tR_12_5 rf_6952_5 ?_
    refine im_ld (q := 72) (i := 1) D372_71 rfl rfl rfl ?_
    obtain ⟨hg17, hP⟩ := hP
    refine im_rng (j := p1) sf_6955 hg17.1 hg17.2 (fun hr18 => ?_)
    refine im_iald (q := 73) D372_72 sf_6955 hg17.1 hg17.2 (by decide) rfl ?_
    obtain ⟨hP, hJ22⟩ := hP
    have kJ23 : ((((M 6955 p1) = 0)) ∨ ((¬ (M 6955 p1) = 0) ∧ ((M 6955 p1) = ((M 6955 p2) * p3)))) → im_T g d 372 87 [some (.ref 6952), some (vI p1), some (vI p2), none, some (vI ((M 6955 p2) * p3)), some (vI x12), some (vI (M 6952 7)), none, none, none, none, none, none] [] e M K := by
      intro  hx24
      have hP := hJ22  hx24
      refine im_iconst (q := 88) D372_87 ?_
      refine im_st1 (q := 90) (i := 7) (L' := [some (.ref 6952), some (vI p1), some (vI p2), none, some (vI ((M 6955 p2) * p3)), some (vI x12), some (vI (M 6952 7)), some (vI 0), none, none, none, none, none]) D372_88 (Or.inr rfl) (Nat.le_of_ble_eq_true rfl) rfl ?_
      refine im_iconst (q := 91) D372_90 ?_
      refine im_st1 (q := 93) (i := 8) (L' := [some (.ref 6952), some (vI p1), some (vI p2), none, some (vI ((M 6955 p2) * p3)), some (vI x12), some (vI (M 6952 7)), some (vI 0), some (vI 0), none, none, none, none]) D372_91 (Or.inr rfl) (Nat.le_of_ble_eq_true rfl) rfl ?_
      exact hP.wk ⟨rfl, rfl, rfl, rfl, rfl, rfl, rfl, rfl, trivial⟩
    refine im_ifc (q := 76) (t := 87) D372_73 rfl hr18 (fun hc19 => ?_) (fun hc19 => ?_)
    · exact (kJ23  (Or.inl hc19)).wk ⟨rfl, rfl, rfl, rfl, rfl, rfl, trivial⟩
    · replace hP := hP hc19
      refine im_ld (q := 77) (i := 0) D372_76 rfl rfl rfl ?_
      refine im_gfR (q := 80) (b := 6955) D372_77 (im_fl cn_372 fl_12_17) sf_6952 rfl rfl tR_12_5 rf_6952_5 ?_
      refine im_ld (q := 81) (i := 1) D372_80 rfl rfl rfl ?_
      refine im_iald (q := 82) D372_81 sf_6955 hg17.1 hg17.2 (by decide) rfl ?_
      refine im_ld (q := 84) (i := 4) D372_82 rfl rfl rfl ?_
      refine im_icmp (q := 87) (t := 163) D372_84 rfl hr18 hg3 (fun hc21 => ?_) (fun hc21 => ?_)
      · replace hP := hP hc21
        refine im_ld (q := 164) (i := 0) D372_163 rfl rfl rfl ?_
        refine im_ld (q := 165) (i := 1) D372_164 rfl rfl rfl ?_
        refine im_ld (q := 166) (i := 2) D372_165 rfl rfl rfl ?_
        refine im_callV (q := 169) (kd := 1) (y := 303) (n := 2) (ci := 12) (a := 6952) (vs := [.ref 6952, vI p1, vI p2]) (r := []) (L2 := [some (.ref 6952), some (vI p1), some (vI p2), none, none]) D372_166 (im_cal cn_372 cl_12_467) (Or.inl rfl) rfl sf_6952 rfl rfl rfl rfl hd ⟨rfl, rfl, rfl, trivial⟩ ?_
        refine hP.mono ?_
        rintro _ e43 M25 ⟨x26, rfl, rfl, hP⟩
        refine im_bkS ?_
        obtain ⟨hg27, hP⟩ := hP
        have hJ30 := hP
        have kJ31 : ∀ x29 : Int, (((x26 < 0) ∧ x29 = 0) ∨ ((0 ≤ x26) ∧ x29 = 1)) → im_T g d 372 177 [some (.ref 6952), some (vI p1), some (vI p2), none, some (vI ((M 6955 p2) * p3)), some (vI x12), some (vI (M 6952 7)), none, none, none, none, none, none] [vI x29] e M25 K := by
          intro x29 hx32
          have hP := hJ30 x29 hx32
          refine im_st1 (q := 179) (i := 7) (L' := [some (.ref 6952), some (vI p1), some (vI p2), none, some (vI ((M 6955 p2) * p3)), some (vI x12), some (vI (M 6952 7)), some (vI x29), none, none, none, none, none]) D372_177 (Or.inr rfl) (Nat.le_of_ble_eq_true rfl) rfl ?_
          refine im_ld (q := 181) (i := 7) D372_179 rfl rfl rfl ?_
          have hJ35 := hP
          have kJ36 : ∀ x34 : Int, (((x29 = 0) ∧ x34 = p2) ∨ ((¬ x29 = 0) ∧ x34 = p1)) → im_T g d 372 189 [some (.ref 6952), some (vI p1), some (vI p2), none, some (vI ((M 6955 p2) * p3)), some (vI x12), some (vI (M 6952 7)), some (vI x29), none, none, none, none, none] [vI x34] e M25 K := by
            intro x34 hx37
            have hP := hJ35 x34 hx37
            refine im_st1 (q := 191) (i := 8) (L' := [some (.ref 6952), some (vI p1), some (vI p2), none, some (vI ((M 6955 p2) * p3)), some (vI x12), some (vI (M 6952 7)), some (vI x29), some (vI x34), none, none, none, none]) D372_189 (Or.inr rfl) (Nat.le_of_ble_eq_true rfl) rfl ?_
            refine im_ld (q := 193) (i := 7) D372_191 rfl rfl rfl ?_
            have hJ40 := hP
            have kJ41 : ∀ x39 : Int, (((x29 = 0) ∧ x39 = p1) ∨ ((¬ x29 = 0) ∧ x39 = p2)) → im_T g d 372 201 [some (.ref 6952), some (vI p1), none, none, some (vI ((M 6955 p2) * p3)), some (vI x12), some (vI (M 6952 7)), some (vI x29), some (vI x34), none, none, none, none] [vI x39] e M25 K := by
              intro x39 hx42
              have hP := hJ40 x39 hx42
              refine im_st1 (q := 203) (i := 9) (L' := [some (.ref 6952), some (vI p1), none, none, some (vI ((M 6955 p2) * p3)), some (vI x12), some (vI (M 6952 7)), some (vI x29), some (vI x34), some (vI x39), none, none, none]) D372_201 (Or.inr rfl) (Nat.le_of_ble_eq_true rfl) rfl ?_
              refine im_iconst (q := 204) D372_203 ?_
              refine im_st1 (q := 206) (i := 10) (L' := [some (.ref 6952), some (vI p1), none, none, some (vI ((M 6955 p2) * p3)), some (vI x12), some (vI (M 6952 7)), some (vI x29), some (vI x34), some (vI x39), some (vI 0), none, none]) D372_204 (Or.inr rfl) (Nat.le_of_ble_eq_true rfl) rfl ?_
              refine im_iconst (q := 207) D372_206 ?_
              refine im_st1 (q := 209) (i := 11) (L' := [some (.ref 6952), some (vI p1), none, none, some (vI ((M 6955 p2) * p3)), some (vI x12), some (vI (M 6952 7)), some (vI x29), some (vI x34), some (vI x39), some (vI 0), some (vI 0), none]) D372_207 (Or.inr rfl) (Nat.le_of_ble_eq_true rfl) rfl ?_
              exact hP.wk ⟨rfl, rfl, rfl, rfl, rfl, rfl, rfl, rfl, rfl, rfl, trivial⟩
            refine im_ifc (q := 196) (t := 200) D372_193 rfl (by omega) (fun hc38 => ?_) (fun hc38 => ?_)
            · refine im_ld (q := 201) (i := 1) D372_200 rfl rfl rfl ?_
              exact (kJ41 (p1) (Or.inl ⟨hc38, rfl⟩)).wk ⟨rfl, rfl, rfl, rfl, rfl, rfl, rfl, trivial⟩
            · refine im_ld (q := 197) (i := 2) D372_196 rfl rfl rfl ?_
              refine im_goto (q := 200) (t := 201) D372_197 rfl ?_
              exact (kJ41 (p2) (Or.inr ⟨hc38, rfl⟩)).wk ⟨rfl, rfl, rfl, rfl, rfl, rfl, rfl, trivial⟩
          refine im_ifc (q := 184) (t := 188) D372_181 rfl (by omega) (fun hc33 => ?_) (fun hc33 => ?_)
          · refine im_ld (q := 189) (i := 2) D372_188 rfl rfl rfl ?_
            exact (kJ36 (p2) (Or.inl ⟨hc33, rfl⟩)).wk ⟨rfl, rfl, rfl, rfl, rfl, rfl, rfl, trivial⟩
          · refine im_ld (q := 185) (i := 1) D372_184 rfl rfl rfl ?_
            refine im_goto (q := 188) (t := 189) D372_185 rfl ?_
            exact (kJ36 (p1) (Or.inr ⟨hc33, rfl⟩)).wk ⟨rfl, rfl, rfl, rfl, rfl, rfl, rfl, trivial⟩
        refine im_ifc (q := 172) (t := 176) D372_169 rfl hg27 (fun hc28 => ?_) (fun hc28 => ?_)
        · refine im_iconst (q := 177) D372_176 ?_
          exact (kJ31 (0) (Or.inl ⟨hc28, rfl⟩)).wk ⟨rfl, rfl, rfl, rfl, rfl, rfl, trivial⟩
        · refine im_iconst (q := 173) D372_172 ?_
          refine im_goto (q := 176) (t := 177) D372_173 rfl ?_
          exact (kJ31 (1) (Or.inr ⟨(Int.not_lt.mp hc28), rfl⟩)).wk ⟨rfl, rfl, rfl, rfl, rfl, rfl, trivial⟩
      · exact (kJ23  (Or.inr ⟨hc19, (Decidable.not_not.mp hc21)⟩)).wk ⟨rfl, rfl, rfl, rfl, rfl, rfl, trivial⟩
  refine im_ifc (q := 15) (t := 21) D372_12 rfl hg3 (fun hc4 => ?_) (fun hc4 => ?_)
  · replace hP := hP.1 hc4
    refine im_ld (q := 22) (i := 0) D372_21 rfl rfl rfl ?_
    refine im_gfR (q := 25) (b := 6955) D372_22 (im_fl cn_372 fl_12_17) sf_6952 rfl rfl tR_12_5 rf_6952_5 ?_
    refine im_ld (q := 26) (i := 1) D372_25 rfl rfl rfl ?_
    refine im_iconst (q := 27) D372_26 ?_
    refine im_iadd (q := 28) D372_27 ?_
    obtain ⟨hg5, hP⟩ := hP
    refine im_rng (j := (p1 + 1)) sf_6955 hg5.1 hg5.2 (fun hr6 => ?_)
    refine im_iald (q := 29) D372_28 sf_6955 hg5.1 hg5.2 (by decide) rfl ?_
    refine im_ld (q := 30) (i := 0) D372_29 rfl rfl rfl ?_
    refine im_gfR (q := 33) (b := 6955) D372_30 (im_fl cn_372 fl_12_17) sf_6952 rfl rfl tR_12_5 rf_6952_5 ?_
    refine im_ld (q := 34) (i := 2) D372_33 rfl rfl rfl ?_
    refine im_iconst (q := 35) D372_34 ?_
    refine im_iadd (q := 36) D372_35 ?_
    have hg7 := hP
    refine im_rng (j := (p2 + 1)) sf_6955 hg7.1 hg7.2 (fun hr8 => ?_)
    refine im_iald (q := 37) D372_36 sf_6955 hg7.1 hg7.2 (by decide) rfl ?_
    refine im_icmp (q := 40) (t := 51) D372_37 rfl hr6 hr8 (fun hc9 => ?_) (fun hc9 => ?_)
    · refine im_ld (q := 52) (i := 0) D372_51 rfl rfl rfl ?_
      refine im_gfR (q := 55) (b := 6955) D372_52 (im_fl cn_372 fl_12_17) sf_6952 rfl rfl tR_12_5 rf_6952_5 ?_
      refine im_ld (q := 56) (i := 2) D372_55 rfl rfl rfl ?_
      refine im_iconst (q := 57) D372_56 ?_
      refine im_iadd (q := 58) D372_57 ?_
      refine im_iald (q := 59) D372_58 sf_6955 hg7.1 hg7.2 (by decide) rfl ?_
      exact (kJ14 ((M 6955 (p2 + 1))) (Or.inl ⟨hc4, hc9, rfl⟩)).wk ⟨rfl, rfl, rfl, rfl, trivial⟩
    · refine im_ld (q := 41) (i := 0) D372_40 rfl rfl rfl ?_
      refine im_gfR (q := 44) (b := 6955) D372_41 (im_fl cn_372 fl_12_17) sf_6952 rfl rfl tR_12_5 rf_6952_5 ?_
      refine im_ld (q := 45) (i := 1) D372_44 rfl rfl rfl ?_
      refine im_iconst (q := 46) D372_45 ?_
      refine im_iadd (q := 47) D372_46 ?_
      refine im_iald (q := 48) D372_47 sf_6955 hg5.1 hg5.2 (by decide) rfl ?_
      refine im_goto (q := 51) (t := 59) D372_48 rfl ?_
      exact (kJ14 ((M 6955 (p1 + 1))) (Or.inr ⟨hc4, (Int.not_le.mp hc9), rfl⟩)).wk ⟨rfl, rfl, rfl, rfl, trivial⟩
  · replace hP := hP.2 (Decidable.not_not.mp hc4)
    refine im_ld (q := 16) (i := 0) D372_15 rfl rfl rfl ?_
    refine im_ld (q := 17) (i := 1) D372_16 rfl rfl rfl ?_
    refine im_callV (q := 20) (kd := 1) (y := 373) (n := 1) (ci := 12) (a := 6952) (vs := [.ref 6952, vI p1]) (r := []) (L2 := [some (.ref 6952), some (vI p1), none, none, none]) D372_17 (im_cal cn_372 cl_12_470) (Or.inl rfl) rfl sf_6952 rfl rfl rfl rfl hd ⟨rfl, rfl, trivial⟩ ?_
    refine hP.mono ?_
    rintro _ e46 M44 ⟨x45, rfl, rfl, hP⟩
    refine im_bkS ?_
    exact im_iret (q := 21) D372_20 rfl hP
set_option maxRecDepth 20000 in
set_option maxHeartbeats 4000000 in
theorem b_plus_93 {g : im_g} {d : Nat} {e : im_E} {M : im_M} {K : im_K} {p1 p2 p4 p5 p6 p7 p8 : Int} (hd : 1 ≤ d) (hP : (im_i32 p8) ∧ (im_i32 p5) ∧ ((p5 < p8 → im_T g (d - 1) 292 0 [some (.ref 6952), some (vI p6), some (vI (p5 + 1)), some (vI p4), none] [] e M (im_ri (fun x5 e_ M4 => e = e_ ∧ K (.inl (some (vI x5))) e M4))) ∧ (p8 ≤ p5 → im_T g (d - 1) 304 0 [some (.ref 6952), some (vI p1), some (vI p8)] [] e M (im_ri (fun x8 e_ M7 => e = e_ ∧ im_T g (d - 1) 304 0 [some (.ref 6952), some (vI p2), some (vI p8)] [] e M7 (im_ri (fun x10 e_ M9 => e = e_ ∧ (im_i32 ((x8 + x10) + p7)) ∧ (0 ≤ ((p6 + 2) + p8) ∧ ((p6 + 2) + p8) < 1100000) ∧ (im_i32 (((x8 + x10) + p7).tmod 10)) ∧ im_T g d 372 93 [some (.ref 6952), some (vI p1), some (vI p2), none, some (vI p4), some (vI p5), some (vI p6), some (vI (((x8 + x10) + p7).tdiv 10)), some (vI (p8 + 1)), none, none, none, none] [] e (im_u M9 6955 ((p6 + 2) + p8) (((x8 + x10) + p7).tmod 10)) K))))))) : im_T g d 372 93 [some (.ref 6952), some (vI p1), some (vI p2), none, some (vI p4), some (vI p5), some (vI p6), some (vI p7), some (vI p8), none, none, none, none] [] e M K := by
  refine im_ld (q := 95) (i := 8) D372_93 rfl rfl rfl ?_
  refine im_ld (q := 97) (i := 5) D372_95 rfl rfl rfl ?_
  obtain ⟨hg1, hP⟩ := hP
  obtain ⟨hg2, hP⟩ := hP
  refine im_icmp (q := 100) (t := 150) D372_97 rfl hg1 hg2 (fun hc3 => ?_) (fun hc3 => ?_)
  · replace hP := hP.1 hc3
    refine im_ld (q := 151) (i := 0) D372_150 rfl rfl rfl ?_
    refine im_ld (q := 153) (i := 6) D372_151 rfl rfl rfl ?_
    refine im_ld (q := 155) (i := 5) D372_153 rfl rfl rfl ?_
    refine im_iconst (q := 156) D372_155 ?_
    refine im_iadd (q := 157) D372_156 ?_
    refine im_ld (q := 159) (i := 4) D372_157 rfl rfl rfl ?_
    refine im_callV (q := 162) (kd := 1) (y := 292) (n := 3) (ci := 12) (a := 6952) (vs := [.ref 6952, vI p6, vI (p5 + 1), vI p4]) (r := []) (L2 := [some (.ref 6952), some (vI p6), some (vI (p5 + 1)), some (vI p4), none]) D372_159 (im_cal cn_372 cl_12_455) (Or.inl rfl) rfl sf_6952 rfl rfl rfl rfl hd ⟨rfl, rfl, rfl, rfl, trivial⟩ ?_
    refine hP.mono ?_
    rintro _ e6 M4 ⟨x5, rfl, rfl, hP⟩
    refine im_bkS ?_
    exact im_iret (q := 163) D372_162 rfl hP
  · replace hP := hP.2 (Int.not_lt.mp hc3)
    refine im_ld (q := 101) (i := 0) D372_100 rfl rfl rfl ?_
    refine im_ld (q := 102) (i := 1) D372_101 rfl rfl rfl ?_
    refine im_ld (q := 104) (i := 8) D372_102 rfl rfl rfl ?_
    refine im_callV (q := 107) (kd := 1) (y := 304) (n := 2) (ci := 12) (a := 6952) (vs := [.ref 6952, vI p1, vI p8]) (r := []) (L2 := [some (.ref 6952), some (vI p1), some (vI p8)]) D372_104 (im_cal cn_372 cl_12_463) (Or.inl rfl) rfl sf_6952 rfl rfl rfl rfl hd ⟨rfl, rfl, rfl, trivial⟩ ?_
    refine hP.mono ?_
    rintro _ e15 M7 ⟨x8, rfl, rfl, hP⟩
    refine im_bkS ?_
    refine im_ld (q := 108) (i := 0) D372_107 rfl rfl rfl ?_
    refine im_ld (q := 109) (i := 2) D372_108 rfl rfl rfl ?_
    refine im_ld (q := 111) (i := 8) D372_109 rfl rfl rfl ?_
    refine im_callV (q := 114) (kd := 1) (y := 304) (n := 2) (ci := 12) (a := 6952) (vs := [.ref 6952, vI p2, vI p8]) (r := [vI x8]) (L2 := [some (.ref 6952), some (vI p2), some (vI p8)]) D372_111 (im_cal cn_372 cl_12_463) (Or.inl rfl) rfl sf_6952 rfl rfl rfl rfl hd ⟨rfl, rfl, rfl, trivial⟩ ?_
    refine hP.mono ?_
    rintro _ e14 M9 ⟨x10, rfl, rfl, hP⟩
    refine im_bkS ?_
    refine im_iadd (q := 115) D372_114 ?_
    refine im_ld (q := 117) (i := 7) D372_115 rfl rfl rfl ?_
    refine im_iadd (q := 118) D372_117 ?_
    refine im_st1 (q := 120) (i := 9) (L' := [some (.ref 6952), some (vI p1), some (vI p2), none, some (vI p4), some (vI p5), some (vI p6), some (vI p7), some (vI p8), some (vI ((x8 + x10) + p7)), none, none, none]) D372_118 (Or.inr rfl) (Nat.le_of_ble_eq_true rfl) rfl ?_
    refine im_ld (q := 121) (i := 0) D372_120 rfl rfl rfl ?_
    refine im_gfR (q := 124) (b := 6955) D372_121 (im_fl cn_372 fl_12_17) sf_6952 rfl rfl tR_12_5 rf_6952_5 ?_
    refine im_ld (q := 126) (i := 6) D372_124 rfl rfl rfl ?_
    refine im_iconst (q := 127) D372_126 ?_
    refine im_iadd (q := 128) D372_127 ?_
    refine im_ld (q := 130) (i := 8) D372_128 rfl rfl rfl ?_
    refine im_iadd (q := 131) D372_130 ?_
    refine im_ld (q := 133) (i := 9) D372_131 rfl rfl rfl ?_
    refine im_bipush (q := 135) D372_133 rfl ?_
    obtain ⟨hg11, hP⟩ := hP
    refine im_irem (q := 136) D372_135 hg11 (by decide) (by decide) ?_
    obtain ⟨hg12, hP⟩ := hP
    obtain ⟨hg13, hP⟩ := hP
    refine im_iast (q := 137) D372_136 sf_6955 hg12.1 hg12.2 (by decide) hg13 ?_
    refine im_ld (q := 139) (i := 9) D372_137 rfl rfl rfl ?_
    refine im_bipush (q := 141) D372_139 rfl ?_
    refine im_idiv (q := 142) D372_141 hg11 (by decide) (by decide) ?_
    refine im_st1 (q := 144) (i := 7) (L' := [some (.ref 6952), some (vI p1), some (vI p2), none, some (vI p4), some (vI p5), some (vI p6), some (vI (((x8 + x10) + p7).tdiv 10)), some (vI p8), some (vI ((x8 + x10) + p7)), none, none, none]) D372_142 (Or.inr rfl) (Nat.le_of_ble_eq_true rfl) rfl ?_
    refine im_iinc (q := 147) (i := 8) (L' := [some (.ref 6952), some (vI p1), some (vI p2), none, some (vI p4), some (vI p5), some (vI p6), some (vI (((x8 + x10) + p7).tdiv 10)), some (vI (p8 + 1)), some (vI ((x8 + x10) + p7)), none, none, none]) D372_144 rfl (Nat.le_of_ble_eq_true rfl) rfl ?_
    refine im_goto (q := 150) (t := 93) D372_147 rfl ?_
    exact hP.wk ⟨rfl, rfl, rfl, rfl, rfl, rfl, rfl, rfl, trivial⟩
set_option maxRecDepth 20000 in
set_option maxHeartbeats 4000000 in
theorem b_plus_209 {g : im_g} {d : Nat} {e : im_E} {M : im_M} {K : im_K} {p1 p4 p5 p6 p7 p8 p9 p10 p11 : Int} (hd : 1 ≤ d) (hP : (im_i32 p11) ∧ (im_i32 p5) ∧ ((((p5 ≤ p11 → (im_i32 p7) ∧ ((¬ p7 = 0 → (0 ≤ p1 ∧ p1 < 1100000)))) ∧ (p11 < p5 → im_T g (d - 1) 304 0 [some (.ref 6952), some (vI p8), some (vI p11)] [] e M (im_ri (fun x16 e_ M15 => e = e_ ∧ im_T g (d - 1) 304 0 [some (.ref 6952), some (vI p9), some (vI p11)] [] e M15 (im_ri (fun x18 e_ M17 => e = e_ ∧ (im_i32 ((x16 - x18) - p10)) ∧ ((∀ x21 : Int, (((0 ≤ ((x16 - x18) - p10)) ∧ x21 = 0) ∨ ((((x16 - x18) - p10) < 0) ∧ x21 = 1)) → ((∀ x26 : Int, (((0 ≤ ((x16 - x18) - p10)) ∧ x26 = ((x16 - x18) - p10)) ∨ ((((x16 - x18) - p10) < 0) ∧ x26 = (((x16 - x18) - p10) + 10))) → (0 ≤ ((p6 + 2) + p11) ∧ ((p6 + 2) + p11) < 1100000) ∧ (im_i32 x26) ∧ im_T g d 372 209 [some (.ref 6952), some (vI p1), none, none, some (vI p4), some (vI p5), some (vI p6), some (vI p7), some (vI p8), some (vI p9), some (vI x21), some (vI (p11 + 1)), none] [] e (im_u M17 6955 ((p6 + 2) + p11) x26) K))))))))))) ∧ (∀ x8 : Int, (((p5 ≤ p11) ∧ (p7 = 0) ∧ x8 = p4) ∨ ((p5 ≤ p11) ∧ (¬ p7 = 0) ∧ x8 = (M 6955 p1))) → im_T g (d - 1) 292 0 [some (.ref 6952), some (vI p6), some (vI p5), some (vI x8), none] [] e M (im_ri (fun x13 e_ M12 => e = e_ ∧ K (.inl (some (vI x13))) e M12))))) : im_T g d 372 209 [some (.ref 6952), some (vI p1), none, none, some (vI p4), some (vI p5), some (vI p6), some (vI p7), some (vI p8), some (vI p9), some (vI p10), some (vI p11), none] [] e M K := by
  refine im_ld (q := 211) (i := 11) D372_209 rfl rfl rfl ?_
  refine im_ld (q := 213) (i := 5) D372_211 rfl rfl rfl ?_
  obtain ⟨hg1, hP⟩ := hP
  obtain ⟨hg2, hP⟩ := hP
  obtain ⟨hP, hJ9⟩ := hP
  have kJ10 : ∀ x8 : Int, (((p5 ≤ p11) ∧ (p7 = 0) ∧ x8 = p4) ∨ ((p5 ≤ p11) ∧ (¬ p7 = 0) ∧ x8 = (M 6955 p1))) → im_T g d 372 304 [none, none, none, none, none, none, none, none, none, none, none, none, none] [vI x8, vI p5, vI p6, .ref 6952] e M K := by
    intro x8 hx11
    have hP := hJ9 x8 hx11
    refine im_callV (q := 307) (kd := 1) (y := 292) (n := 3) (ci := 12) (a := 6952) (vs := [.ref 6952, vI p6, vI p5, vI x8]) (r := []) (L2 := [some (.ref 6952), some (vI p6), some (vI p5), some (vI x8), none]) D372_304 (im_cal cn_372 cl_12_455) (Or.inl rfl) rfl sf_6952 rfl rfl rfl rfl hd ⟨rfl, rfl, rfl, rfl, trivial⟩ ?_
    refine hP.mono ?_
    rintro _ e14 M12 ⟨x13, rfl, rfl, hP⟩
    refine im_bkS ?_
    exact im_iret (q := 308) D372_307 rfl hP
  refine im_icmp (q := 216) (t := 283) D372_213 rfl hg1 hg2 (fun hc3 => ?_) (fun hc3 => ?_)
  · replace hP := hP.1 hc3
    refine im_ld (q := 284) (i := 0) D372_283 rfl rfl rfl ?_
    refine im_ld (q := 286) (i := 6) D372_284 rfl rfl rfl ?_
    refine im_ld (q := 288) (i := 5) D372_286 rfl rfl rfl ?_
    refine im_ld (q := 290) (i := 7) D372_288 rfl rfl rfl ?_
    obtain ⟨hg4, hP⟩ := hP
    refine im_ifc (q := 293) (t := 302) D372_290 rfl hg4 (fun hc5 => ?_) (fun hc5 => ?_)
    · refine im_ld (q := 304) (i := 4) D372_302 rfl rfl rfl ?_
      exact (kJ10 (p4) (Or.inl ⟨hc3, hc5, rfl⟩)).wk trivial
    · replace hP := hP hc5
      refine im_ld (q := 294) (i := 0) D372_293 rfl rfl rfl ?_
      refine im_gfR (q := 297) (b := 6955) D372_294 (im_fl cn_372 fl_12_17) sf_6952 rfl rfl tR_12_5 rf_6952_5 ?_
      refine im_ld (q := 298) (i := 1) D372_297 rfl rfl rfl ?_
      have hg6 := hP
      refine im_rng (j := p1) sf_6955 hg6.1 hg6.2 (fun hr7 => ?_)
      refine im_iald (q := 299) D372_298 sf_6955 hg6.1 hg6.2 (by decide) rfl ?_
      refine im_goto (q := 302) (t := 304) D372_299 rfl ?_
      exact (kJ10 ((M 6955 p1)) (Or.inr ⟨hc3, hc5, rfl⟩)).wk trivial
  · replace hP := hP.2 (Int.not_le.mp hc3)
    refine im_ld (q := 217) (i := 0) D372_216 rfl rfl rfl ?_
    refine im_ld (q := 219) (i := 8) D372_217 rfl rfl rfl ?_
    refine im_ld (q := 221) (i := 11) D372_219 rfl rfl rfl ?_
    refine im_callV (q := 224) (kd := 1) (y := 304) (n := 2) (ci := 12) (a := 6952) (vs := [.ref 6952, vI p8, vI p11]) (r := []) (L2 := [some (.ref 6952), some (vI p8), some (vI p11)]) D372_221 (im_cal cn_372 cl_12_463) (Or.inl rfl) rfl sf_6952 rfl rfl rfl rfl hd ⟨rfl, rfl, rfl, trivial⟩ ?_
    refine hP.mono ?_
    rintro _ e33 M15 ⟨x16, rfl, rfl, hP⟩
    refine im_bkS ?_
    refine im_ld (q := 225) (i := 0) D372_224 rfl rfl rfl ?_
    refine im_ld (q := 227) (i := 9) D372_225 rfl rfl rfl ?_
    refine im_ld (q := 229) (i := 11) D372_227 rfl rfl rfl ?_
    refine im_callV (q := 232) (kd := 1) (y := 304) (n := 2) (ci := 12) (a := 6952) (vs := [.ref 6952, vI p9, vI p11]) (r := [vI x16]) (L2 := [some (.ref 6952), some (vI p9), some (vI p11)]) D372_229 (im_cal cn_372 cl_12_463) (Or.inl rfl) rfl sf_6952 rfl rfl rfl rfl hd ⟨rfl, rfl, rfl, trivial⟩ ?_
    refine hP.mono ?_
    rintro _ e32 M17 ⟨x18, rfl, rfl, hP⟩
    refine im_bkS ?_
    refine im_isub (q := 233) D372_232 ?_
    refine im_ld (q := 235) (i := 10) D372_233 rfl rfl rfl ?_
    refine im_isub (q := 236) D372_235 ?_
    refine im_st1 (q := 238) (i := 12) (L' := [some (.ref 6952), some (vI p1), none, none, some (vI p4), some (vI p5), some (vI p6), some (vI p7), some (vI p8), some (vI p9), some (vI p10), some (vI p11), some (vI ((x16 - x18) - p10))]) D372_236 (Or.inr rfl) (Nat.le_of_ble_eq_true rfl) rfl ?_
    refine im_ld (q := 240) (i := 12) D372_238 rfl rfl rfl ?_
    obtain ⟨hg19, hP⟩ := hP
    have hJ22 := hP
    have kJ23 : ∀ x21 : Int, (((0 ≤ ((x16 - x18) - p10)) ∧ x21 = 0) ∨ ((((x16 - x18) - p10) < 0) ∧ x21 = 1)) → im_T g d 372 248 [some (.ref 6952), some (vI p1), none, none, some (vI p4), some (vI p5), some (vI p6), some (vI p7), some (vI p8), some (vI p9), none, some (vI p11), some (vI ((x16 - x18) - p10))] [vI x21] e M17 K := by
      intro x21 hx24
      have hP := hJ22 x21 hx24
      refine im_st1 (q := 250) (i := 10) (L' := [some (.ref 6952), some (vI p1), none, none, some (vI p4), some (vI p5), some (vI p6), some (vI p7), some (vI p8), some (vI p9), some (vI x21), some (vI p11), some (vI ((x16 - x18) - p10))]) D372_248 (Or.inr rfl) (Nat.le_of_ble_eq_true rfl) rfl ?_
      refine im_ld (q := 251) (i := 0) D372_250 rfl rfl rfl ?_
      refine im_gfR (q := 254) (b := 6955) D372_251 (im_fl cn_372 fl_12_17) sf_6952 rfl rfl tR_12_5 rf_6952_5 ?_
      refine im_ld (q := 256) (i := 6) D372_254 rfl rfl rfl ?_
      refine im_iconst (q := 257) D372_256 ?_
      refine im_iadd (q := 258) D372_257 ?_
      refine im_ld (q := 260) (i := 11) D372_258 rfl rfl rfl ?_
      refine im_iadd (q := 261) D372_260 ?_
      refine im_ld (q := 263) (i := 12) D372_261 rfl rfl rfl ?_
      have hJ27 := hP
      have kJ28 : ∀ x26 : Int, (((0 ≤ ((x16 - x18) - p10)) ∧ x26 = ((x16 - x18) - p10)) ∨ ((((x16 - x18) - p10) < 0) ∧ x26 = (((x16 - x18) - p10) + 10))) → im_T g d 372 276 [some (.ref 6952), some (vI p1), none, none, some (vI p4), some (vI p5), some (vI p6), some (vI p7), some (vI p8), some (vI p9), some (vI x21), some (vI p11), none] [vI x26, vI ((p6 + 2) + p11), .ref 6955] e M17 K := by
        intro x26 hx29
        have hP := hJ27 x26 hx29
        obtain ⟨hg30, hP⟩ := hP
        obtain ⟨hg31, hP⟩ := hP
        refine im_iast (q := 277) D372_276 sf_6955 hg30.1 hg30.2 (by decide) hg31 ?_
        refine im_iinc (q := 280) (i := 11) (L' := [some (.ref 6952), some (vI p1), none, none, some (vI p4), some (vI p5), some (vI p6), some (vI p7), some (vI p8), some (vI p9), some (vI x21), some (vI (p11 + 1)), none]) D372_277 rfl (Nat.le_of_ble_eq_true rfl) rfl ?_
        refine im_goto (q := 283) (t := 209) D372_280 rfl ?_
        exact hP.wk ⟨rfl, rfl, rfl, rfl, rfl, rfl, rfl, rfl, rfl, rfl, trivial⟩
      refine im_ifc (q := 266) (t := 274) D372_263 rfl hg19 (fun hc25 => ?_) (fun hc25 => ?_)
      · refine im_ld (q := 276) (i := 12) D372_274 rfl rfl rfl ?_
        exact (kJ28 (((x16 - x18) - p10)) (Or.inl ⟨hc25, rfl⟩)).wk ⟨rfl, rfl, rfl, rfl, rfl, rfl, rfl, rfl, rfl, rfl, trivial⟩
      · refine im_ld (q := 268) (i := 12) D372_266 rfl rfl rfl ?_
        refine im_bipush (q := 270) D372_268 rfl ?_
        refine im_iadd (q := 271) D372_270 ?_
        refine im_goto (q := 274) (t := 276) D372_271 rfl ?_
        exact (kJ28 ((((x16 - x18) - p10) + 10)) (Or.inr ⟨(Int.not_le.mp hc25), rfl⟩)).wk ⟨rfl, rfl, rfl, rfl, rfl, rfl, rfl, rfl, rfl, rfl, trivial⟩
    refine im_ifc (q := 243) (t := 247) D372_240 rfl hg19 (fun hc20 => ?_) (fun hc20 => ?_)
    · refine im_iconst (q := 248) D372_247 ?_
      exact (kJ23 (0) (Or.inl ⟨hc20, rfl⟩)).wk ⟨rfl, rfl, rfl, rfl, rfl, rfl, rfl, rfl, rfl, rfl, trivial⟩
    · refine im_iconst (q := 244) D372_243 ?_
      refine im_goto (q := 247) (t := 248) D372_244 rfl ?_
      exact (kJ23 (1) (Or.inr ⟨(Int.not_le.mp hc20), rfl⟩)).wk ⟨rfl, rfl, rfl, rfl, rfl, rfl, rfl, rfl, rfl, rfl, trivial⟩
set_option maxRecDepth 20000 in
set_option maxHeartbeats 4000000 in
theorem b_minus_0 {g : im_g} {d : Nat} {e : im_E} {M : im_M} {K : im_K} {p1 : Int} (hd : 1 ≤ d) (hP : im_T g (d - 1) 373 0 [some (.ref 6952), some (vI p1), none, none, none] [] e M (im_ri (fun x2 e_ M1 => e = e_ ∧ (0 ≤ x2 ∧ x2 < 1100000) ∧ (im_i32 (-(M1 6955 x2))) ∧ K (.inl (some (vI x2))) e (im_u M1 6955 x2 (-(M1 6955 x2)))))) : im_T g d 393 0 [some (.ref 6952), some (vI p1), none] [] e M K := by
  refine im_ld (q := 1) (i := 0) D393_0 rfl rfl rfl ?_
  refine im_ld (q := 2) (i := 1) D393_1 rfl rfl rfl ?_
  refine im_callV (q := 5) (kd := 1) (y := 373) (n := 1) (ci := 12) (a := 6952) (vs := [.ref 6952, vI p1]) (r := []) (L2 := [some (.ref 6952), some (vI p1), none, none, none]) D393_2 (im_cal cn_393 cl_12_470) (Or.inl rfl) rfl sf_6952 rfl rfl rfl rfl hd ⟨rfl, rfl, trivial⟩ ?_
  refine hP.mono ?_
  rintro _ e6 M1 ⟨x2, rfl, rfl, hP⟩
  refine im_bkS ?_
  refine im_st1 (q := 6) (i := 2) (L' := [some (.ref 6952), some (vI p1), some (vI x2)]) D393_5 (Or.inl ⟨_, rfl, rfl⟩) (Nat.le_of_ble_eq_true rfl) rfl ?_
  refine im_ld (q := 7) (i := 0) D393_6 rfl rfl rfl ?_
  refine im_gfR (q := 10) (b := 6955) D393_7 (im_fl cn_393 fl_12_17) sf_6952 rfl rfl tR_12_5 rf_6952_5 ?_
  refine im_ld (q := 11) (i := 2) D393_10 rfl rfl rfl ?_
  refine im_ld (q := 12) (i := 0) D393_11 rfl rfl rfl ?_
  refine im_gfR (q := 15) (b := 6955) D393_12 (im_fl cn_393 fl_12_17) sf_6952 rfl rfl tR_12_5 rf_6952_5 ?_
  refine im_ld (q := 16) (i := 2) D393_15 rfl rfl rfl ?_
  obtain ⟨hg3, hP⟩ := hP
  refine im_rng (j := x2) sf_6955 hg3.1 hg3.2 (fun hr4 => ?_)
  refine im_iald (q := 17) D393_16 sf_6955 hg3.1 hg3.2 (by decide) rfl ?_
  refine im_ineg (q := 18) D393_17 ?_
  obtain ⟨hg5, hP⟩ := hP
  refine im_iast (q := 19) D393_18 sf_6955 hg3.1 hg3.2 (by decide) hg5 ?_
  refine im_ld (q := 20) (i := 2) D393_19 rfl rfl rfl ?_
  exact im_iret (q := 21) D393_20 rfl hP
set_option maxRecDepth 20000 in
set_option maxHeartbeats 4000000 in
theorem b_times_0 {g : im_g} {d : Nat} {e : im_E} {M : im_M} {K : im_K} {p1 p2 : Int} (hd : 1 ≤ d) (hP : im_T g (d - 1) 396 0 [some (.ref 6952), some (vI p1), some (.ref 6956), none, none, none, none, none] [] e M (im_ri (fun x2 e_ M1 => e = e_ ∧ im_T g (d - 1) 396 0 [some (.ref 6952), some (vI p2), some (.ref 6957), none, none, none, none, none] [] e M1 (im_ri (fun x4 e_ M3 => e = e_ ∧ im_T g d 395 24 [some (.ref 6952), some (vI p1), some (vI p2), some (vI x2), some (vI x4), some (vI 0), none, none, none, none, none] [] e M3 K))))) : im_T g d 395 0 [some (.ref 6952), some (vI p1), some (vI p2), none, none, none, none, none, none, none, none] [] e M K := by
  refine im_ld (q := 1) (i := 0) D395_0 rfl rfl rfl ?_
  refine im_ld (q := 2) (i := 1) D395_1 rfl rfl rfl ?_
  refine im_ld (q := 3) (i := 0) D395_2 rfl rfl rfl ?_
  refine im_gfR (q := 6) (b := 6956) D395_3 (im_fl cn_395 fl_12_20) sf_6952 rfl rfl tR_12_9 rf_6952_9 ?_
  refine im_callV (q := 9) (kd := 1) (y := 396) (n := 2) (ci := 12) (a := 6952) (vs := [.ref 6952, vI p1, .ref 6956]) (r := []) (L2 := [some (.ref 6952), some (vI p1), some (.ref 6956), none, none, none, none, none]) D395_6 (im_cal cn_395 cl_12_474) (Or.inl rfl) rfl sf_6952 rfl rfl rfl rfl hd ⟨rfl, rfl, rfl, trivial⟩ ?_
  refine hP.mono ?_
  rintro _ e6 M1 ⟨x2, rfl, rfl, hP⟩
  refine im_bkS ?_
  refine im_st1 (q := 10) (i := 3) (L' := [some (.ref 6952), some (vI p1), some (vI p2), some (vI x2), none, none, none, none, none, none, none]) D395_9 (Or.inl ⟨_, rfl, rfl⟩) (Nat.le_of_ble_eq_true rfl) rfl ?_
  refine im_ld (q := 11) (i := 0) D395_10 rfl rfl rfl ?_
  refine im_ld (q := 12) (i := 2) D395_11 rfl rfl rfl ?_
  refine im_ld (q := 13) (i := 0) D395_12 rfl rfl rfl ?_
  refine im_gfR (q := 16) (b := 6957) D395_13 (im_fl cn_395 fl_12_24) sf_6952 rfl rfl tR_12_10 rf_6952_10 ?_
  refine im_callV (q := 19) (kd := 1) (y := 396) (n := 2) (ci := 12) (a := 6952) (vs := [.ref 6952, vI p2, .ref 6957]) (r := []) (L2 := [some (.ref 6952), some (vI p2), some (.ref 6957), none, none, none, none, none]) D395_16 (im_cal cn_395 cl_12_474) (Or.inl rfl) rfl sf_6952 rfl rfl rfl rfl hd ⟨rfl, rfl, rfl, trivial⟩ ?_
  refine hP.mono ?_
  rintro _ e5 M3 ⟨x4, rfl, rfl, hP⟩
  refine im_bkS ?_
  refine im_st1 (q := 21) (i := 4) (L' := [some (.ref 6952), some (vI p1), some (vI p2), some (vI x2), some (vI x4), none, none, none, none, none, none]) D395_19 (Or.inr rfl) (Nat.le_of_ble_eq_true rfl) rfl ?_
  refine im_iconst (q := 22) D395_21 ?_
  refine im_st1 (q := 24) (i := 5) (L' := [some (.ref 6952), some (vI p1), some (vI p2), some (vI x2), some (vI x4), some (vI 0), none, none, none, none, none]) D395_22 (Or.inr rfl) (Nat.le_of_ble_eq_true rfl) rfl ?_
  exact hP.wk ⟨rfl, rfl, rfl, rfl, rfl, rfl, trivial⟩
set_option maxRecDepth 20000 in
set_option maxHeartbeats 4000000 in
theorem b_times_24 {g : im_g} {d : Nat} {e : im_E} {M : im_M} {K : im_K} {p1 p2 p3 p4 p5 : Int} (hP : (im_i32 p5) ∧ (im_i32 (p3 + p4)) ∧ (((p3 + p4) ≤ p5 → im_T g d 395 50 [some (.ref 6952), some (vI p1), some (vI p2), some (vI p3), some (vI p4), some (vI 0), none, none, none, none, none] [] e M K) ∧ (p5 < (p3 + p4) → (0 ≤ p5 ∧ p5 < 72) ∧ im_T g d 395 24 [some (.ref 6952), some (vI p1), some (vI p2), some (vI p3), some (vI p4), some (vI (p5 + 1)), none, none, none, none, none] [] e (im_u M 6958 p5 0) K))) : im_T g d 395 24 [some (.ref 6952), some (vI p1), some (vI p2), some (vI p3), some (vI p4), some (vI p5), none, none, none, none, none] [] e M K := by
  refine im_ld (q := 26) (i := 5) D395_24 rfl rfl rfl ?_
  refine im_ld (q := 27) (i := 3) D395_26 rfl rfl rfl ?_
  refine im_ld (q := 29) (i := 4) D395_27 rfl rfl rfl ?_
  refine im_iadd (q := 30) D395_29 ?_
  obtain ⟨hg1, hP⟩ := hP
  obtain ⟨hg2, hP⟩ := hP
  refine im_icmp (q := 33) (t := 47) D395_30 rfl hg1 hg2 (fun hc3 => ?_) (fun hc3 => ?_)
  · replace hP := hP.1 hc3
    refine im_iconst (q := 48) D395_47 ?_
    refine im_st1 (q := 50) (i := 5) (L' := [some (.ref 6952), some (vI p1), some (vI p2), some (vI p3), some (vI p4), some (vI 0), none, none, none, none, none]) D395_48 (Or.inr rfl) (Nat.le_of_ble_eq_true rfl) rfl ?_
    exact hP.wk ⟨rfl, rfl, rfl, rfl, rfl, rfl, trivial⟩
  · replace hP := hP.2 (Int.not_le.mp hc3)
    refine im_ld (q := 34) (i := 0) D395_33 rfl rfl rfl ?_
    refine im_gfR (q := 37) (b := 6958) D395_34 (im_fl cn_395 fl_12_27) sf_6952 rfl rfl tR_12_11 rf_6952_11 ?_
    refine im_ld (q := 39) (i := 5) D395_37 rfl rfl rfl ?_
    refine im_lconst (q := 40) (z := 0) D395_39 rfl ?_
    obtain ⟨hg4, hP⟩ := hP
    refine im_last (q := 41) D395_40 sf_6958 hg4.1 hg4.2 (by decide) (by decide) ?_
    refine im_iinc (q := 44) (i := 5) (L' := [some (.ref 6952), some (vI p1), some (vI p2), some (vI p3), some (vI p4), some (vI (p5 + 1)), none, none, none, none, none]) D395_41 rfl (Nat.le_of_ble_eq_true rfl) rfl ?_
    refine im_goto (q := 47) (t := 24) D395_44 rfl ?_
    exact hP.wk ⟨rfl, rfl, rfl, rfl, rfl, rfl, trivial⟩
set_option maxRecDepth 20000 in
set_option maxHeartbeats 4000000 in
theorem b_times_50 {g : im_g} {d : Nat} {e : im_E} {M : im_M} {K : im_K} {p1 p2 p3 p4 p5 : Int} (hd : 1 ≤ d) (hP : (im_i32 p5) ∧ (im_i32 p3) ∧ ((p3 ≤ p5 → im_T g (d - 1) 397 0 [some (.ref 6952), some (vI (M 6952 7)), some (vI (p3 + p4)), none] [] e M (im_r0 (fun  e_ M5 => e = e_ ∧ (0 ≤ p1 ∧ p1 < 1100000) ∧ (0 ≤ p2 ∧ p2 < 1100000) ∧ im_T g (d - 1) 292 0 [some (.ref 6952), some (vI (M 6952 7)), some (vI (9 * (p3 + p4))), some (vI ((M5 6955 p1) * (M5 6955 p2))), none] [] e M5 (im_ri (fun x11 e_ M10 => e = e_ ∧ K (.inl (some (vI x11))) e M10))))) ∧ (p5 < p3 → im_T g d 395 62 [some (.ref 6952), some (vI p1), some (vI p2), some (vI p3), some (vI p4), some (vI p5), some (vL 0), none, some (vI 0), none, none] [] e M K))) : im_T g d 395 50 [some (.ref 6952), some (vI p1), some (vI p2), some (vI p3), some (vI p4), some (vI p5), none, none, none, none, none] [] e M K := by
  refine im_ld (q := 52) (i := 5) D395_50 rfl rfl rfl ?_
  refine im_ld (q := 53) (i := 3) D395_52 rfl rfl rfl ?_
  obtain ⟨hg1, hP⟩ := hP
  obtain ⟨hg2, hP⟩ := hP
  refine im_icmp (q := 56) (t := 148) D395_53 rfl hg1 hg2 (fun hc3 => ?_) (fun hc3 => ?_)
  · replace hP := hP.1 hc3
    refine im_ld (q := 149) (i := 0) D395_148 rfl rfl rfl ?_
    refine im_rng (j := 7) sf_6952 (by decide) (by decide) (fun hr4 => ?_)
    refine im_gfI (q := 152) D395_149 (im_fl cn_395 fl_12_449) sf_6952 rfl rfl tI_12_7 rfl ?_
    refine im_st1 (q := 154) (i := 5) (L' := [some (.ref 6952), some (vI p1), some (vI p2), some (vI p3), some (vI p4), some (vI (M 6952 7)), none, none, none, none, none]) D395_152 (Or.inr rfl) (Nat.le_of_ble_eq_true rfl) rfl ?_
    refine im_ld (q := 155) (i := 0) D395_154 rfl rfl rfl ?_
    refine im_ld (q := 157) (i := 5) D395_155 rfl rfl rfl ?_
    refine im_ld (q := 158) (i := 3) D395_157 rfl rfl rfl ?_
    refine im_ld (q := 160) (i := 4) D395_158 rfl rfl rfl ?_
    refine im_iadd (q := 161) D395_160 ?_
    refine im_callV (q := 164) (kd := 1) (y := 397) (n := 2) (ci := 12) (a := 6952) (vs := [.ref 6952, vI (M 6952 7), vI (p3 + p4)]) (r := []) (L2 := [some (.ref 6952), some (vI (M 6952 7)), some (vI (p3 + p4)), none]) D395_161 (im_cal cn_395 cl_12_480) (Or.inl rfl) rfl sf_6952 rfl rfl rfl rfl hd ⟨rfl, rfl, rfl, trivial⟩ ?_
    refine hP.mono ?_
    rintro _ e13 M5 ⟨rfl, rfl, hP⟩
    refine im_bkN ?_
    refine im_ld (q := 165) (i := 0) D395_164 rfl rfl rfl ?_
    refine im_ld (q := 167) (i := 5) D395_165 rfl rfl rfl ?_
    refine im_bipush (q := 169) D395_167 rfl ?_
    refine im_ld (q := 170) (i := 3) D395_169 rfl rfl rfl ?_
    refine im_ld (q := 172) (i := 4) D395_170 rfl rfl rfl ?_
    refine im_iadd (q := 173) D395_172 ?_
    refine im_imul (q := 174) D395_173 ?_
    refine im_ld (q := 175) (i := 0) D395_174 rfl rfl rfl ?_
    refine im_gfR (q := 178) (b := 6955) D395_175 (im_fl cn_395 fl_12_17) sf_6952 rfl rfl tR_12_5 rf_6952_5 ?_
    refine im_ld (q := 179) (i := 1) D395_178 rfl rfl rfl ?_
    obtain ⟨hg6, hP⟩ := hP
    refine im_rng (j := p1) sf_6955 hg6.1 hg6.2 (fun hr7 => ?_)
    refine im_iald (q := 180) D395_179 sf_6955 hg6.1 hg6.2 (by decide) rfl ?_
    refine im_ld (q := 181) (i := 0) D395_180 rfl rfl rfl ?_
    refine im_gfR (q := 184) (b := 6955) D395_181 (im_fl cn_395 fl_12_17) sf_6952 rfl rfl tR_12_5 rf_6952_5 ?_
    refine im_ld (q := 185) (i := 2) D395_184 rfl rfl rfl ?_
    obtain ⟨hg8, hP⟩ := hP
    refine im_rng (j := p2) sf_6955 hg8.1 hg8.2 (fun hr9 => ?_)
    refine im_iald (q := 186) D395_185 sf_6955 hg8.1 hg8.2 (by decide) rfl ?_
    refine im_imul (q := 187) D395_186 ?_
    refine im_callV (q := 190) (kd := 1) (y := 292) (n := 3) (ci := 12) (a := 6952) (vs := [.ref 6952, vI (M 6952 7), vI (9 * (p3 + p4)), vI ((M5 6955 p1) * (M5 6955 p2))]) (r := []) (L2 := [some (.ref 6952), some (vI (M 6952 7)), some (vI (9 * (p3 + p4))), some (vI ((M5 6955 p1) * (M5 6955 p2))), none]) D395_187 (im_cal cn_395 cl_12_455) (Or.inl rfl) rfl sf_6952 rfl rfl rfl rfl hd ⟨rfl, rfl, rfl, rfl, trivial⟩ ?_
    refine hP.mono ?_
    rintro _ e12 M10 ⟨x11, rfl, rfl, hP⟩
    refine im_bkS ?_
    exact im_iret (q := 191) D395_190 rfl hP
  · replace hP := hP.2 (Int.not_le.mp hc3)
    refine im_lconst (q := 57) (z := 0) D395_56 rfl ?_
    refine im_st2 (q := 59) (i := 6) (L' := [some (.ref 6952), some (vI p1), some (vI p2), some (vI p3), some (vI p4), some (vI p5), some (vL 0), none, none, none, none]) D395_57 (Or.inr rfl) (Nat.le_of_ble_eq_true rfl) rfl ?_
    refine im_iconst (q := 60) D395_59 ?_
    refine im_st1 (q := 62) (i := 8) (L' := [some (.ref 6952), some (vI p1), some (vI p2), some (vI p3), some (vI p4), some (vI p5), some (vL 0), none, some (vI 0), none, none]) D395_60 (Or.inr rfl) (Nat.le_of_ble_eq_true rfl) rfl ?_
    exact hP.wk ⟨rfl, rfl, rfl, rfl, rfl, rfl, rfl, rfl, trivial⟩
set_option maxRecDepth 20000 in
set_option maxHeartbeats 4000000 in
theorem b_times_62 {g : im_g} {d : Nat} {e : im_E} {M : im_M} {K : im_K} {p1 p2 p3 p4 p5 p6 p8 : Int} (hP : (im_i32 p8) ∧ (im_i32 p4) ∧ ((p4 ≤ p8 → (0 ≤ (p5 + p4) ∧ (p5 + p4) < 72) ∧ (im_i64 p6) ∧ im_T g d 395 50 [some (.ref 6952), some (vI p1), some (vI p2), some (vI p3), some (vI p4), some (vI (p5 + 1)), none, none, none, none, none] [] e (im_u M 6958 (p5 + p4) p6) K) ∧ (p8 < p4 → (0 ≤ (p5 + p8) ∧ (p5 + p8) < 72) ∧ (0 ≤ p5 ∧ p5 < 72) ∧ (0 ≤ p8 ∧ p8 < 72) ∧ (im_i64 (((M 6958 (p5 + p8)) + ((M 6956 p5) * (M 6957 p8))) + p6)) ∧ (im_i64 ((((M 6958 (p5 + p8)) + ((M 6956 p5) * (M 6957 p8))) + p6).tmod 1000000000)) ∧ im_T g d 395 62 [some (.ref 6952), some (vI p1), some (vI p2), some (vI p3), some (vI p4), some (vI p5), some (vL ((((M 6958 (p5 + p8)) + ((M 6956 p5) * (M 6957 p8))) + p6).tdiv 1000000000)), none, some (vI (p8 + 1)), none, none] [] e (im_u M 6958 (p5 + p8) ((((M 6958 (p5 + p8)) + ((M 6956 p5) * (M 6957 p8))) + p6).tmod 1000000000)) K))) : im_T g d 395 62 [some (.ref 6952), some (vI p1), some (vI p2), some (vI p3), some (vI p4), some (vI p5), some (vL p6), none, some (vI p8), none, none] [] e M K := by
  refine im_ld (q := 64) (i := 8) D395_62 rfl rfl rfl ?_
  refine im_ld (q := 66) (i := 4) D395_64 rfl rfl rfl ?_
  obtain ⟨hg1, hP⟩ := hP
  obtain ⟨hg2, hP⟩ := hP
  refine im_icmp (q := 69) (t := 130) D395_66 rfl hg1 hg2 (fun hc3 => ?_) (fun hc3 => ?_)
  · replace hP := hP.1 hc3
    refine im_ld (q := 131) (i := 0) D395_130 rfl rfl rfl ?_
    refine im_gfR (q := 134) (b := 6958) D395_131 (im_fl cn_395 fl_12_27) sf_6952 rfl rfl tR_12_11 rf_6952_11 ?_
    refine im_ld (q := 136) (i := 5) D395_134 rfl rfl rfl ?_
    refine im_ld (q := 138) (i := 4) D395_136 rfl rfl rfl ?_
    refine im_iadd (q := 139) D395_138 ?_
    refine im_ld (q := 141) (i := 6) D395_139 rfl rfl rfl ?_
    obtain ⟨hg10, hP⟩ := hP
    obtain ⟨hg11, hP⟩ := hP
    refine im_last (q := 142) D395_141 sf_6958 hg10.1 hg10.2 (by decide) hg11 ?_
    refine im_iinc (q := 145) (i := 5) (L' := [some (.ref 6952), some (vI p1), some (vI p2), some (vI p3), some (vI p4), some (vI (p5 + 1)), some (vL p6), none, some (vI p8), none, none]) D395_142 rfl (Nat.le_of_ble_eq_true rfl) rfl ?_
    refine im_goto (q := 148) (t := 50) D395_145 rfl ?_
    exact hP.wk ⟨rfl, rfl, rfl, rfl, rfl, rfl, trivial⟩
  · replace hP := hP.2 (Int.not_le.mp hc3)
    refine im_ld (q := 70) (i := 0) D395_69 rfl rfl rfl ?_
    refine im_gfR (q := 73) (b := 6958) D395_70 (im_fl cn_395 fl_12_27) sf_6952 rfl rfl tR_12_11 rf_6952_11 ?_
    refine im_ld (q := 75) (i := 5) D395_73 rfl rfl rfl ?_
    refine im_ld (q := 77) (i := 8) D395_75 rfl rfl rfl ?_
    refine im_iadd (q := 78) D395_77 ?_
    obtain ⟨hg4, hP⟩ := hP
    refine im_rng (j := (p5 + p8)) sf_6958 hg4.1 hg4.2 (fun hr5 => ?_)
    refine im_lald (q := 79) D395_78 sf_6958 hg4.1 hg4.2 (by decide) rfl ?_
    refine im_ld (q := 80) (i := 0) D395_79 rfl rfl rfl ?_
    refine im_gfR (q := 83) (b := 6956) D395_80 (im_fl cn_395 fl_12_20) sf_6952 rfl rfl tR_12_9 rf_6952_9 ?_
    refine im_ld (q := 85) (i := 5) D395_83 rfl rfl rfl ?_
    obtain ⟨hg6, hP⟩ := hP
    refine im_rng (j := p5) sf_6956 hg6.1 hg6.2 (fun hr7 => ?_)
    refine im_lald (q := 86) D395_85 sf_6956 hg6.1 hg6.2 (by decide) rfl ?_
    refine im_ld (q := 87) (i := 0) D395_86 rfl rfl rfl ?_
    refine im_gfR (q := 90) (b := 6957) D395_87 (im_fl cn_395 fl_12_24) sf_6952 rfl rfl tR_12_10 rf_6952_10 ?_
    refine im_ld (q := 92) (i := 8) D395_90 rfl rfl rfl ?_
    obtain ⟨hg8, hP⟩ := hP
    refine im_rng (j := p8) sf_6957 hg8.1 hg8.2 (fun hr9 => ?_)
    refine im_lald (q := 93) D395_92 sf_6957 hg8.1 hg8.2 (by decide) rfl ?_
    refine im_lmul (q := 94) D395_93 ?_
    refine im_ladd (q := 95) D395_94 ?_
    refine im_ld (q := 97) (i := 6) D395_95 rfl rfl rfl ?_
    refine im_ladd (q := 98) D395_97 ?_
    refine im_st2 (q := 100) (i := 9) (L' := [some (.ref 6952), some (vI p1), some (vI p2), some (vI p3), some (vI p4), some (vI p5), some (vL p6), none, some (vI p8), some (vL (((M 6958 (p5 + p8)) + ((M 6956 p5) * (M 6957 p8))) + p6)), none]) D395_98 (Or.inr rfl) (Nat.le_of_ble_eq_true rfl) rfl ?_
    refine im_ld (q := 101) (i := 0) D395_100 rfl rfl rfl ?_
    refine im_gfR (q := 104) (b := 6958) D395_101 (im_fl cn_395 fl_12_27) sf_6952 rfl rfl tR_12_11 rf_6952_11 ?_
    refine im_ld (q := 106) (i := 5) D395_104 rfl rfl rfl ?_
    refine im_ld (q := 108) (i := 8) D395_106 rfl rfl rfl ?_
    refine im_iadd (q := 109) D395_108 ?_
    refine im_ld (q := 111) (i := 9) D395_109 rfl rfl rfl ?_
    refine im_ldc2 (q := 114) (n := 1000000000) D395_111 rfl ?_
    obtain ⟨hg12, hP⟩ := hP
    refine im_lrem (q := 115) D395_114 hg12 (by decide) (by decide) ?_
    obtain ⟨hg13, hP⟩ := hP
    refine im_last (q := 116) D395_115 sf_6958 hg4.1 hg4.2 (by decide) hg13 ?_
    refine im_ld (q := 118) (i := 9) D395_116 rfl rfl rfl ?_
    refine im_ldc2 (q := 121) (n := 1000000000) D395_118 rfl ?_
    refine im_ldiv (q := 122) D395_121 hg12 (by decide) (by decide) ?_
    refine im_st2 (q := 124) (i := 6) (L' := [some (.ref 6952), some (vI p1), some (vI p2), some (vI p3), some (vI p4), some (vI p5), some (vL ((((M 6958 (p5 + p8)) + ((M 6956 p5) * (M 6957 p8))) + p6).tdiv 1000000000)), none, some (vI p8), some (vL (((M 6958 (p5 + p8)) + ((M 6956 p5) * (M 6957 p8))) + p6)), none]) D395_122 (Or.inr rfl) (Nat.le_of_ble_eq_true rfl) rfl ?_
    refine im_iinc (q := 127) (i := 8) (L' := [some (.ref 6952), some (vI p1), some (vI p2), some (vI p3), some (vI p4), some (vI p5), some (vL ((((M 6958 (p5 + p8)) + ((M 6956 p5) * (M 6957 p8))) + p6).tdiv 1000000000)), none, some (vI (p8 + 1)), some (vL (((M 6958 (p5 + p8)) + ((M 6956 p5) * (M 6957 p8))) + p6)), none]) D395_124 rfl (Nat.le_of_ble_eq_true rfl) rfl ?_
    refine im_goto (q := 130) (t := 62) D395_127 rfl ?_
    exact hP.wk ⟨rfl, rfl, rfl, rfl, rfl, rfl, rfl, rfl, trivial⟩
set_option maxRecDepth 20000 in
set_option maxHeartbeats 4000000 in
theorem b_layFound_0 {g : im_g} {d : Nat} {e : im_E} {M : im_M} {K : im_K} {p1 p2 : Int} (hP : im_T g d 397 2 [some (.ref 6952), some (vI p1), some (vI p2), some (vI 0)] [] e M K) : im_T g d 397 0 [some (.ref 6952), some (vI p1), some (vI p2), none] [] e M K := by
  refine im_iconst (q := 1) D397_0 ?_
  refine im_st1 (q := 2) (i := 3) (L' := [some (.ref 6952), some (vI p1), some (vI p2), some (vI 0)]) D397_1 (Or.inl ⟨_, rfl, rfl⟩) (Nat.le_of_ble_eq_true rfl) rfl ?_
  exact hP.wk ⟨rfl, rfl, rfl, rfl, trivial⟩
set_option maxRecDepth 20000 in
set_option maxHeartbeats 4000000 in
theorem b_layFound_2 {g : im_g} {d : Nat} {e : im_E} {M : im_M} {K : im_K} {p1 p2 p3 : Int} (hP : (im_i32 p3) ∧ (im_i32 (9 * p2)) ∧ (((9 * p2) ≤ p3 → K (.inl none) e M) ∧ (p3 < (9 * p2) → (0 ≤ (p3.tdiv 9) ∧ (p3.tdiv 9) < 72) ∧ (0 ≤ ((p1 + 2) + p3) ∧ ((p1 + 2) + p3) < 1100000) ∧ (im_i32 ((M 6958 (p3.tdiv 9)).tmod 10)) ∧ (im_i64 ((M 6958 (p3.tdiv 9)).tdiv 10)) ∧ im_T g d 397 2 [some (.ref 6952), some (vI p1), some (vI p2), some (vI (p3 + 1))] [] e (im_u (im_u M 6955 ((p1 + 2) + p3) ((M 6958 (p3.tdiv 9)).tmod 10)) 6958 (p3.tdiv 9) ((M 6958 (p3.tdiv 9)).tdiv 10)) K))) : im_T g d 397 2 [some (.ref 6952), some (vI p1), some (vI p2), some (vI p3)] [] e M K := by
  refine im_ld (q := 3) (i := 3) D397_2 rfl rfl rfl ?_
  refine im_bipush (q := 5) D397_3 rfl ?_
  refine im_ld (q := 6) (i := 2) D397_5 rfl rfl rfl ?_
  refine im_imul (q := 7) D397_6 ?_
  obtain ⟨hg1, hP⟩ := hP
  obtain ⟨hg2, hP⟩ := hP
  refine im_icmp (q := 10) (t := 62) D397_7 rfl hg1 hg2 (fun hc3 => ?_) (fun hc3 => ?_)
  · replace hP := hP.1 hc3
    exact im_vret (q := 63) D397_62 rfl hP
  · replace hP := hP.2 (Int.not_le.mp hc3)
    refine im_ld (q := 11) (i := 0) D397_10 rfl rfl rfl ?_
    refine im_gfR (q := 14) (b := 6955) D397_11 (im_fl cn_397 fl_12_17) sf_6952 rfl rfl tR_12_5 rf_6952_5 ?_
    refine im_ld (q := 15) (i := 1) D397_14 rfl rfl rfl ?_
    refine im_iconst (q := 16) D397_15 ?_
    refine im_iadd (q := 17) D397_16 ?_
    refine im_ld (q := 18) (i := 3) D397_17 rfl rfl rfl ?_
    refine im_iadd (q := 19) D397_18 ?_
    refine im_ld (q := 20) (i := 0) D397_19 rfl rfl rfl ?_
    refine im_gfR (q := 23) (b := 6958) D397_20 (im_fl cn_397 fl_12_27) sf_6952 rfl rfl tR_12_11 rf_6952_11 ?_
    refine im_ld (q := 24) (i := 3) D397_23 rfl rfl rfl ?_
    refine im_bipush (q := 26) D397_24 rfl ?_
    refine im_idiv (q := 27) D397_26 hg1 (by decide) (by decide) ?_
    obtain ⟨hg4, hP⟩ := hP
    refine im_rng (j := (p3.tdiv 9)) sf_6958 hg4.1 hg4.2 (fun hr5 => ?_)
    refine im_lald (q := 28) D397_27 sf_6958 hg4.1 hg4.2 (by decide) rfl ?_
    refine im_ldc2 (q := 31) (n := 10) D397_28 rfl ?_
    refine im_lrem (q := 32) D397_31 hr5 (by decide) (by decide) ?_
    refine im_l2i (q := 33) D397_32 ?_
    obtain ⟨hg6, hP⟩ := hP
    obtain ⟨hg7, hP⟩ := hP
    refine im_iast (q := 34) D397_33 sf_6955 hg6.1 hg6.2 (by decide) hg7 ?_
    refine im_ld (q := 35) (i := 0) D397_34 rfl rfl rfl ?_
    refine im_gfR (q := 38) (b := 6958) D397_35 (im_fl cn_397 fl_12_27) sf_6952 rfl rfl tR_12_11 rf_6952_11 ?_
    refine im_ld (q := 39) (i := 3) D397_38 rfl rfl rfl ?_
    refine im_bipush (q := 41) D397_39 rfl ?_
    refine im_idiv (q := 42) D397_41 hg1 (by decide) (by decide) ?_
    refine im_ld (q := 43) (i := 0) D397_42 rfl rfl rfl ?_
    refine im_gfR (q := 46) (b := 6958) D397_43 (im_fl cn_397 fl_12_27) sf_6952 rfl rfl tR_12_11 rf_6952_11 ?_
    refine im_ld (q := 47) (i := 3) D397_46 rfl rfl rfl ?_
    refine im_bipush (q := 49) D397_47 rfl ?_
    refine im_idiv (q := 50) D397_49 hg1 (by decide) (by decide) ?_
    refine im_lald (q := 51) D397_50 sf_6958 hg4.1 hg4.2 (by decide) (im_rdn _ _ _ _ (by decide)) ?_
    refine im_ldc2 (q := 54) (n := 10) D397_51 rfl ?_
    refine im_ldiv (q := 55) D397_54 hr5 (by decide) (by decide) ?_
    obtain ⟨hg9, hP⟩ := hP
    refine im_last (q := 56) D397_55 sf_6958 hg4.1 hg4.2 (by decide) hg9 ?_
    refine im_iinc (q := 59) (i := 3) (L' := [some (.ref 6952), some (vI p1), some (vI p2), some (vI (p3 + 1))]) D397_56 rfl (Nat.le_of_ble_eq_true rfl) rfl ?_
    refine im_goto (q := 62) (t := 2) D397_59 rfl ?_
    exact hP.wk ⟨rfl, rfl, rfl, rfl, trivial⟩
set_option maxRecDepth 20000 in
set_option maxHeartbeats 4000000 in
theorem b_places_0 {g : im_g} {d : Nat} {e : im_E} {M : im_M} {K : im_K} {p1 : Int} {p2 n2 : Nat} (hs2 : (im_sh0 ++ e)[p2]? = some (2, n2, [])) (hn2 : n2 ≤ 2147483647) (hP : (0 ≤ (p1 + 1) ∧ (p1 + 1) < 1100000) ∧ (im_i32 ((M 6955 (p1 + 1)) + 8)) ∧ im_T g d 396 18 [some (.ref 6952), some (vI p1), some (.ref p2), some (vI (((M 6955 (p1 + 1)) + 8).tdiv 9)), some (vI 0), none, none, none] [] e M K) : im_T g d 396 0 [some (.ref 6952), some (vI p1), some (.ref p2), none, none, none, none, none] [] e M K := by
  refine im_ld (q := 1) (i := 0) D396_0 rfl rfl rfl ?_
  refine im_gfR (q := 4) (b := 6955) D396_1 (im_fl cn_396 fl_12_17) sf_6952 rfl rfl tR_12_5 rf_6952_5 ?_
  refine im_ld (q := 5) (i := 1) D396_4 rfl rfl rfl ?_
  refine im_iconst (q := 6) D396_5 ?_
  refine im_iadd (q := 7) D396_6 ?_
  obtain ⟨hg1, hP⟩ := hP
  refine im_rng (j := (p1 + 1)) sf_6955 hg1.1 hg1.2 (fun hr2 => ?_)
  refine im_iald (q := 8) D396_7 sf_6955 hg1.1 hg1.2 (by decide) rfl ?_
  refine im_bipush (q := 10) D396_8 rfl ?_
  refine im_iadd (q := 11) D396_10 ?_
  refine im_bipush (q := 13) D396_11 rfl ?_
  obtain ⟨hg3, hP⟩ := hP
  refine im_idiv (q := 14) D396_13 hg3 (by decide) (by decide) ?_
  refine im_st1 (q := 15) (i := 3) (L' := [some (.ref 6952), some (vI p1), some (.ref p2), some (vI (((M 6955 (p1 + 1)) + 8).tdiv 9)), none, none, none, none]) D396_14 (Or.inl ⟨_, rfl, rfl⟩) (Nat.le_of_ble_eq_true rfl) rfl ?_
  refine im_iconst (q := 16) D396_15 ?_
  refine im_st1 (q := 18) (i := 4) (L' := [some (.ref 6952), some (vI p1), some (.ref p2), some (vI (((M 6955 (p1 + 1)) + 8).tdiv 9)), some (vI 0), none, none, none]) D396_16 (Or.inr rfl) (Nat.le_of_ble_eq_true rfl) rfl ?_
  exact hP.wk ⟨rfl, rfl, rfl, rfl, rfl, trivial⟩
set_option maxRecDepth 20000 in
set_option maxHeartbeats 4000000 in
theorem b_places_18 {g : im_g} {d : Nat} {e : im_E} {M : im_M} {K : im_K} {p1 p3 p4 : Int} {p2 n2 : Nat} (hs2 : (im_sh0 ++ e)[p2]? = some (2, n2, [])) (hn2 : n2 ≤ 2147483647) (hP : (im_i32 p4) ∧ (im_i32 p3) ∧ ((p3 ≤ p4 → (0 ≤ p3 ∧ p3 < n2) ∧ K (.inl (some (vI p3))) e (im_u M p2 p3 0)) ∧ (p4 < p3 → im_T g d 396 31 [some (.ref 6952), some (vI p1), some (.ref p2), some (vI p3), some (vI p4), some (vL 0), none, some (vI 8)] [] e M K))) : im_T g d 396 18 [some (.ref 6952), some (vI p1), some (.ref p2), some (vI p3), some (vI p4), none, none, none] [] e M K := by
  refine im_ld (q := 20) (i := 4) D396_18 rfl rfl rfl ?_
  refine im_ld (q := 21) (i := 3) D396_20 rfl rfl rfl ?_
  obtain ⟨hg1, hP⟩ := hP
  obtain ⟨hg2, hP⟩ := hP
  refine im_icmp (q := 24) (t := 77) D396_21 rfl hg1 hg2 (fun hc3 => ?_) (fun hc3 => ?_)
  · replace hP := hP.1 hc3
    refine im_ld (q := 78) (i := 2) D396_77 rfl rfl rfl ?_
    refine im_ld (q := 79) (i := 3) D396_78 rfl rfl rfl ?_
    refine im_lconst (q := 80) (z := 0) D396_79 rfl ?_
    obtain ⟨hg4, hP⟩ := hP
    refine im_last (q := 81) D396_80 hs2 hg4.1 hg4.2 hn2 (by decide) ?_
    refine im_ld (q := 82) (i := 3) D396_81 rfl rfl rfl ?_
    exact im_iret (q := 83) D396_82 rfl hP
  · replace hP := hP.2 (Int.not_le.mp hc3)
    refine im_lconst (q := 25) (z := 0) D396_24 rfl ?_
    refine im_st2 (q := 27) (i := 5) (L' := [some (.ref 6952), some (vI p1), some (.ref p2), some (vI p3), some (vI p4), some (vL 0), none, none]) D396_25 (Or.inr rfl) (Nat.le_of_ble_eq_true rfl) rfl ?_
    refine im_bipush (q := 29) D396_27 rfl ?_
    refine im_st1 (q := 31) (i := 7) (L' := [some (.ref 6952), some (vI p1), some (.ref p2), some (vI p3), some (vI p4), some (vL 0), none, some (vI 8)]) D396_29 (Or.inr rfl) (Nat.le_of_ble_eq_true rfl) rfl ?_
    exact hP.wk ⟨rfl, rfl, rfl, rfl, rfl, rfl, rfl, trivial⟩
set_option maxRecDepth 20000 in
set_option maxHeartbeats 4000000 in
theorem b_places_31 {g : im_g} {d : Nat} {e : im_E} {M : im_M} {K : im_K} {p1 p3 p4 p5 p7 : Int} {p2 n2 : Nat} (hs2 : (im_sh0 ++ e)[p2]? = some (2, n2, [])) (hn2 : n2 ≤ 2147483647) (hd : 1 ≤ d) (hP : (im_i32 p7) ∧ ((p7 < 0 → (0 ≤ p4 ∧ p4 < n2) ∧ (im_i64 p5) ∧ im_T g d 396 18 [some (.ref 6952), some (vI p1), some (.ref p2), some (vI p3), some (vI (p4 + 1)), none, none, none] [] e (im_u M p2 p4 p5) K) ∧ (0 ≤ p7 → im_T g (d - 1) 304 0 [some (.ref 6952), some (vI p1), some (vI ((9 * p4) + p7))] [] e M (im_ri (fun x6 e_ M5 => e = e_ ∧ (im_i32 x6) ∧ im_T g d 396 31 [some (.ref 6952), some (vI p1), some (.ref p2), some (vI p3), some (vI p4), some (vL ((10 * p5) + x6)), none, some (vI (p7 + (-1)))] [] e M5 K))))) : im_T g d 396 31 [some (.ref 6952), some (vI p1), some (.ref p2), some (vI p3), some (vI p4), some (vL p5), none, some (vI p7)] [] e M K := by
  refine im_ld (q := 33) (i := 7) D396_31 rfl rfl rfl ?_
  obtain ⟨hg1, hP⟩ := hP
  refine im_ifc (q := 36) (t := 65) D396_33 rfl hg1 (fun hc2 => ?_) (fun hc2 => ?_)
  · replace hP := hP.1 hc2
    refine im_ld (q := 66) (i := 2) D396_65 rfl rfl rfl ?_
    refine im_ld (q := 68) (i := 4) D396_66 rfl rfl rfl ?_
    refine im_ld (q := 70) (i := 5) D396_68 rfl rfl rfl ?_
    obtain ⟨hg3, hP⟩ := hP
    obtain ⟨hg4, hP⟩ := hP
    refine im_last (q := 71) D396_70 hs2 hg3.1 hg3.2 hn2 hg4 ?_
    refine im_iinc (q := 74) (i := 4) (L' := [some (.ref 6952), some (vI p1), some (.ref p2), some (vI p3), some (vI (p4 + 1)), some (vL p5), none, some (vI p7)]) D396_71 rfl (Nat.le_of_ble_eq_true rfl) rfl ?_
    refine im_goto (q := 77) (t := 18) D396_74 rfl ?_
    exact hP.wk ⟨rfl, rfl, rfl, rfl, rfl, trivial⟩
  · replace hP := hP.2 (Int.not_lt.mp hc2)
    refine im_ldc2 (q := 39) (n := 10) D396_36 rfl ?_
    refine im_ld (q := 41) (i := 5) D396_39 rfl rfl rfl ?_
    refine im_lmul (q := 42) D396_41 ?_
    refine im_ld (q := 43) (i := 0) D396_42 rfl rfl rfl ?_
    refine im_ld (q := 44) (i := 1) D396_43 rfl rfl rfl ?_
    refine im_bipush (q := 46) D396_44 rfl ?_
    refine im_ld (q := 48) (i := 4) D396_46 rfl rfl rfl ?_
    refine im_imul (q := 49) D396_48 ?_
    refine im_ld (q := 51) (i := 7) D396_49 rfl rfl rfl ?_
    refine im_iadd (q := 52) D396_51 ?_
    refine im_callV (q := 55) (kd := 1) (y := 304) (n := 2) (ci := 12) (a := 6952) (vs := [.ref 6952, vI p1, vI ((9 * p4) + p7)]) (r := [vL (10 * p5)]) (L2 := [some (.ref 6952), some (vI p1), some (vI ((9 * p4) + p7))]) D396_52 (im_cal cn_396 cl_12_463) (Or.inl rfl) rfl sf_6952 rfl rfl rfl rfl hd ⟨rfl, rfl, rfl, trivial⟩ ?_
    refine hP.mono ?_
    rintro _ e8 M5 ⟨x6, rfl, rfl, hP⟩
    refine im_bkS ?_
    obtain ⟨hg7, hP⟩ := hP
    refine im_i2l (q := 56) D396_55 hg7 ?_
    refine im_ladd (q := 57) D396_56 ?_
    refine im_st2 (q := 59) (i := 5) (L' := [some (.ref 6952), some (vI p1), some (.ref p2), some (vI p3), some (vI p4), some (vL ((10 * p5) + x6)), none, some (vI p7)]) D396_57 (Or.inr rfl) (Nat.le_of_ble_eq_true rfl) rfl ?_
    refine im_iinc (q := 62) (i := 7) (L' := [some (.ref 6952), some (vI p1), some (.ref p2), some (vI p3), some (vI p4), some (vL ((10 * p5) + x6)), none, some (vI (p7 + (-1)))]) D396_59 rfl (Nat.le_of_ble_eq_true rfl) rfl ?_
    refine im_goto (q := 65) (t := 31) D396_62 rfl ?_
    exact hP.wk ⟨rfl, rfl, rfl, rfl, rfl, rfl, rfl, trivial⟩
set_option maxRecDepth 20000 in
set_option maxHeartbeats 4000000 in
theorem b_scale_0 {g : im_g} {d : Nat} {e : im_E} {M : im_M} {K : im_K} {p1 p2 : Int} {p0 n0 : Nat} (hs0 : (im_sh0 ++ e)[p0]? = some (2, n0, [])) (hn0 : n0 ≤ 2147483647) (hP : im_T g d 399 6 [some (.ref p0), some (vI p1), some (vL p2), none, some (vL 0), none, some (vI 0), none, none] [] e M K) : im_T g d 399 0 [some (.ref p0), some (vI p1), some (vL p2), none, none, none, none, none, none] [] e M K := by
  refine im_lconst (q := 1) (z := 0) D399_0 rfl ?_
  refine im_st2 (q := 3) (i := 4) (L' := [some (.ref p0), some (vI p1), some (vL p2), none, some (vL 0), none, none, none, none]) D399_1 (Or.inr rfl) (Nat.le_of_ble_eq_true rfl) rfl ?_
  refine im_iconst (q := 4) D399_3 ?_
  refine im_st1 (q := 6) (i := 6) (L' := [some (.ref p0), some (vI p1), some (vL p2), none, some (vL 0), none, some (vI 0), none, none]) D399_4 (Or.inr rfl) (Nat.le_of_ble_eq_true rfl) rfl ?_
  exact hP.wk ⟨rfl, rfl, rfl, rfl, rfl, trivial⟩
set_option maxRecDepth 20000 in
set_option maxHeartbeats 4000000 in
theorem b_scale_6 {g : im_g} {d : Nat} {e : im_E} {M : im_M} {K : im_K} {p1 p2 p4 p6 : Int} {p0 n0 : Nat} (hs0 : (im_sh0 ++ e)[p0]? = some (2, n0, [])) (hn0 : n0 ≤ 2147483647) (hP : (im_i32 p6) ∧ (im_i32 p1) ∧ ((p1 < p6 → K (.inl none) e M) ∧ (p6 ≤ p1 → (0 ≤ p6 ∧ p6 < n0) ∧ (im_i64 (((M p0 p6) * p2) + p4)) ∧ (im_i64 ((((M p0 p6) * p2) + p4).tmod 1000000000)) ∧ im_T g d 399 6 [some (.ref p0), some (vI p1), some (vL p2), none, some (vL ((((M p0 p6) * p2) + p4).tdiv 1000000000)), none, some (vI (p6 + 1)), none, none] [] e (im_u M p0 p6 ((((M p0 p6) * p2) + p4).tmod 1000000000)) K))) : im_T g d 399 6 [some (.ref p0), some (vI p1), some (vL p2), none, some (vL p4), none, some (vI p6), none, none] [] e M K := by
  refine im_ld (q := 8) (i := 6) D399_6 rfl rfl rfl ?_
  refine im_ld (q := 9) (i := 1) D399_8 rfl rfl rfl ?_
  obtain ⟨hg1, hP⟩ := hP
  obtain ⟨hg2, hP⟩ := hP
  refine im_icmp (q := 12) (t := 47) D399_9 rfl hg1 hg2 (fun hc3 => ?_) (fun hc3 => ?_)
  · replace hP := hP.1 hc3
    exact im_vret (q := 48) D399_47 rfl hP
  · replace hP := hP.2 (Int.not_lt.mp hc3)
    refine im_ld (q := 13) (i := 0) D399_12 rfl rfl rfl ?_
    refine im_ld (q := 15) (i := 6) D399_13 rfl rfl rfl ?_
    obtain ⟨hg4, hP⟩ := hP
    refine im_rng (j := p6) hs0 hg4.1 hg4.2 (fun hr5 => ?_)
    refine im_lald (q := 16) D399_15 hs0 hg4.1 hg4.2 hn0 rfl ?_
    refine im_ld (q := 17) (i := 2) D399_16 rfl rfl rfl ?_
    refine im_lmul (q := 18) D399_17 ?_
    refine im_ld (q := 20) (i := 4) D399_18 rfl rfl rfl ?_
    refine im_ladd (q := 21) D399_20 ?_
    refine im_st2 (q := 23) (i := 7) (L' := [some (.ref p0), some (vI p1), some (vL p2), none, some (vL p4), none, some (vI p6), some (vL (((M p0 p6) * p2) + p4)), none]) D399_21 (Or.inr rfl) (Nat.le_of_ble_eq_true rfl) rfl ?_
    refine im_ld (q := 24) (i := 0) D399_23 rfl rfl rfl ?_
    refine im_ld (q := 26) (i := 6) D399_24 rfl rfl rfl ?_
    refine im_ld (q := 28) (i := 7) D399_26 rfl rfl rfl ?_
    refine im_ldc2 (q := 31) (n := 1000000000) D399_28 rfl ?_
    obtain ⟨hg6, hP⟩ := hP
    refine im_lrem (q := 32) D399_31 hg6 (by decide) (by decide) ?_
    obtain ⟨hg7, hP⟩ := hP
    refine im_last (q := 33) D399_32 hs0 hg4.1 hg4.2 hn0 hg7 ?_
    refine im_ld (q := 35) (i := 7) D399_33 rfl rfl rfl ?_
    refine im_ldc2 (q := 38) (n := 1000000000) D399_35 rfl ?_
    refine im_ldiv (q := 39) D399_38 hg6 (by decide) (by decide) ?_
    refine im_st2 (q := 41) (i := 4) (L' := [some (.ref p0), some (vI p1), some (vL p2), none, some (vL ((((M p0 p6) * p2) + p4).tdiv 1000000000)), none, some (vI p6), some (vL (((M p0 p6) * p2) + p4)), none]) D399_39 (Or.inr rfl) (Nat.le_of_ble_eq_true rfl) rfl ?_
    refine im_iinc (q := 44) (i := 6) (L' := [some (.ref p0), some (vI p1), some (vL p2), none, some (vL ((((M p0 p6) * p2) + p4).tdiv 1000000000)), none, some (vI (p6 + 1)), some (vL (((M p0 p6) * p2) + p4)), none]) D399_41 rfl (Nat.le_of_ble_eq_true rfl) rfl ?_
    refine im_goto (q := 47) (t := 6) D399_44 rfl ?_
    exact hP.wk ⟨rfl, rfl, rfl, rfl, rfl, trivial⟩
set_option maxRecDepth 20000 in
set_option maxHeartbeats 4000000 in
theorem b_takeOff_0 {g : im_g} {d : Nat} {e : im_E} {M : im_M} {K : im_K} {p1 p2 p3 : Int} (hP : im_T g d 401 6 [some (.ref 6952), some (vI p1), some (vI p2), some (vL p3), none, some (vL 0), none, some (vI 0), none, none] [] e M K) : im_T g d 401 0 [some (.ref 6952), some (vI p1), some (vI p2), some (vL p3), none, none, none, none, none, none] [] e M K := by
  refine im_lconst (q := 1) (z := 0) D401_0 rfl ?_
  refine im_st2 (q := 3) (i := 5) (L' := [some (.ref 6952), some (vI p1), some (vI p2), some (vL p3), none, some (vL 0), none, none, none, none]) D401_1 (Or.inr rfl) (Nat.le_of_ble_eq_true rfl) rfl ?_
  refine im_iconst (q := 4) D401_3 ?_
  refine im_st1 (q := 6) (i := 7) (L' := [some (.ref 6952), some (vI p1), some (vI p2), some (vL p3), none, some (vL 0), none, some (vI 0), none, none]) D401_4 (Or.inr rfl) (Nat.le_of_ble_eq_true rfl) rfl ?_
  exact hP.wk ⟨rfl, rfl, rfl, rfl, rfl, rfl, trivial⟩
set_option maxRecDepth 20000 in
set_option maxHeartbeats 4000000 in
theorem b_takeOff_6 {g : im_g} {d : Nat} {e : im_E} {M : im_M} {K : im_K} {p1 p2 p3 p5 p7 : Int} (hP : (im_i32 p7) ∧ (im_i32 p2) ∧ ((((p2 < p7 → (im_i64 p5)) ∧ (p7 ≤ p2 → (0 ≤ (p1 + p7) ∧ (p1 + p7) < 72) ∧ ((p7 < p2 → (0 ≤ p7 ∧ p7 < 72)))))) ∧ (∀ x12 : Int, (((p7 ≤ p2) ∧ (p2 ≤ p7) ∧ x12 = 0) ∨ ((p7 ≤ p2) ∧ (p7 < p2) ∧ x12 = (p3 * (M 6957 p7)))) → (im_i64 (((M 6956 (p1 + p7)) - p5) - x12)) ∧ (((((((M 6956 (p1 + p7)) - p5) - x12) < 0 → (im_i64 (999999999 - (((M 6956 (p1 + p7)) - p5) - x12)))))) ∧ (∀ x19 : Int, (((0 ≤ (((M 6956 (p1 + p7)) - p5) - x12)) ∧ x19 = 0) ∨ (((((M 6956 (p1 + p7)) - p5) - x12) < 0) ∧ x19 = ((999999999 - (((M 6956 (p1 + p7)) - p5) - x12)).tdiv 1000000000))) → (0 ≤ (p1 + p7) ∧ (p1 + p7) < 72) ∧ (im_i64 ((((M 6956 (p1 + p7)) - p5) - x12) + (x19 * 1000000000))) ∧ im_T g d 401 6 [some (.ref 6952), some (vI p1), some (vI p2), some (vL p3), none, some (vL x19), none, some (vI (p7 + 1)), none, none] [] e (im_u M 6956 (p1 + p7) ((((M 6956 (p1 + p7)) - p5) - x12) + (x19 * 1000000000))) K))) ∧ (∀ x11 : Int, (((p2 < p7) ∧ (¬ p5 = 0) ∧ x11 = 0) ∨ ((p2 < p7) ∧ (p5 = 0) ∧ x11 = 1)) → K (.inl (some (vI x11))) e M))) : im_T g d 401 6 [some (.ref 6952), some (vI p1), some (vI p2), some (vL p3), none, some (vL p5), none, some (vI p7), none, none] [] e M K := by
  refine im_ld (q := 8) (i := 7) D401_6 rfl rfl rfl ?_
  refine im_ld (q := 9) (i := 2) D401_8 rfl rfl rfl ?_
  obtain ⟨hg1, hP⟩ := hP
  obtain ⟨hg2, hP⟩ := hP
  obtain ⟨hP, hJ13, hJ25⟩ := hP
  have kJ14 : ∀ x12 : Int, (((p7 ≤ p2) ∧ (p2 ≤ p7) ∧ x12 = 0) ∨ ((p7 ≤ p2) ∧ (p7 < p2) ∧ x12 = (p3 * (M 6957 p7)))) → im_T g d 401 43 [some (.ref 6952), some (vI p1), some (vI p2), some (vL p3), none, none, none, some (vI p7), none, none] [vL x12, vL ((M 6956 (p1 + p7)) - p5)] e M K := by
    intro x12 hx15
    have hP := hJ13 x12 hx15
    refine im_lsub (q := 44) D401_43 ?_
    refine im_st2 (q := 46) (i := 8) (L' := [some (.ref 6952), some (vI p1), some (vI p2), some (vL p3), none, none, none, some (vI p7), some (vL (((M 6956 (p1 + p7)) - p5) - x12)), none]) D401_44 (Or.inr rfl) (Nat.le_of_ble_eq_true rfl) rfl ?_
    refine im_ld (q := 48) (i := 8) D401_46 rfl rfl rfl ?_
    refine im_lconst (q := 49) (z := 0) D401_48 rfl ?_
    obtain ⟨hg16, hP⟩ := hP
    obtain ⟨hP, hJ20⟩ := hP
    have kJ21 : ∀ x19 : Int, (((0 ≤ (((M 6956 (p1 + p7)) - p5) - x12)) ∧ x19 = 0) ∨ (((((M 6956 (p1 + p7)) - p5) - x12) < 0) ∧ x19 = ((999999999 - (((M 6956 (p1 + p7)) - p5) - x12)).tdiv 1000000000))) → im_T g d 401 67 [some (.ref 6952), some (vI p1), some (vI p2), some (vL p3), none, none, none, some (vI p7), some (vL (((M 6956 (p1 + p7)) - p5) - x12)), none] [vL x19] e M K := by
      intro x19 hx22
      have hP := hJ20 x19 hx22
      refine im_st2 (q := 69) (i := 5) (L' := [some (.ref 6952), some (vI p1), some (vI p2), some (vL p3), none, some (vL x19), none, some (vI p7), some (vL (((M 6956 (p1 + p7)) - p5) - x12)), none]) D401_67 (Or.inr rfl) (Nat.le_of_ble_eq_true rfl) rfl ?_
      refine im_ld (q := 70) (i := 0) D401_69 rfl rfl rfl ?_
      refine im_gfR (q := 73) (b := 6956) D401_70 (im_fl cn_401 fl_12_20) sf_6952 rfl rfl tR_12_9 rf_6952_9 ?_
      refine im_ld (q := 74) (i := 1) D401_73 rfl rfl rfl ?_
      refine im_ld (q := 76) (i := 7) D401_74 rfl rfl rfl ?_
      refine im_iadd (q := 77) D401_76 ?_
      refine im_ld (q := 79) (i := 8) D401_77 rfl rfl rfl ?_
      refine im_ld (q := 81) (i := 5) D401_79 rfl rfl rfl ?_
      refine im_ldc2 (q := 84) (n := 1000000000) D401_81 rfl ?_
      refine im_lmul (q := 85) D401_84 ?_
      refine im_ladd (q := 86) D401_85 ?_
      obtain ⟨hg23, hP⟩ := hP
      obtain ⟨hg24, hP⟩ := hP
      refine im_last (q := 87) D401_86 sf_6956 hg23.1 hg23.2 (by decide) hg24 ?_
      refine im_iinc (q := 90) (i := 7) (L' := [some (.ref 6952), some (vI p1), some (vI p2), some (vL p3), none, some (vL x19), none, some (vI (p7 + 1)), some (vL (((M 6956 (p1 + p7)) - p5) - x12)), none]) D401_87 rfl (Nat.le_of_ble_eq_true rfl) rfl ?_
      refine im_goto (q := 93) (t := 6) D401_90 rfl ?_
      exact hP.wk ⟨rfl, rfl, rfl, rfl, rfl, rfl, trivial⟩
    refine im_lif (q := 50) (q2 := 53) (t := 66) D401_49 D401_50 rfl hg16 (by decide) (fun hc17 => ?_) (fun hc17 => ?_)
    · refine im_lconst (q := 67) (z := 0) D401_66 rfl ?_
      exact (kJ21 (0) (Or.inl ⟨hc17, rfl⟩)).wk ⟨rfl, rfl, rfl, rfl, rfl, rfl, trivial⟩
    · replace hP := hP (Int.not_le.mp hc17)
      refine im_ldc2 (q := 56) (n := 999999999) D401_53 rfl ?_
      refine im_ld (q := 58) (i := 8) D401_56 rfl rfl rfl ?_
      refine im_lsub (q := 59) D401_58 ?_
      refine im_ldc2 (q := 62) (n := 1000000000) D401_59 rfl ?_
      have hg18 := hP
      refine im_ldiv (q := 63) D401_62 hg18 (by decide) (by decide) ?_
      refine im_goto (q := 66) (t := 67) D401_63 rfl ?_
      exact (kJ21 (((999999999 - (((M 6956 (p1 + p7)) - p5) - x12)).tdiv 1000000000)) (Or.inr ⟨(Int.not_le.mp hc17), rfl⟩)).wk ⟨rfl, rfl, rfl, rfl, rfl, rfl, trivial⟩
  have kJ26 : ∀ x11 : Int, (((p2 < p7) ∧ (¬ p5 = 0) ∧ x11 = 0) ∨ ((p2 < p7) ∧ (p5 = 0) ∧ x11 = 1)) → im_T g d 401 105 [none, none, none, none, none, none, none, none, none, none] [vI x11] e M K := by
    intro x11 hx27
    have hP := hJ25 x11 hx27
    exact im_zret (q := 106) D401_105 rfl (by omega) hP
  refine im_icmp (q := 12) (t := 93) D401_9 rfl hg1 hg2 (fun hc3 => ?_) (fun hc3 => ?_)
  · replace hP := hP.1 hc3
    refine im_ld (q := 95) (i := 5) D401_93 rfl rfl rfl ?_
    refine im_lconst (q := 96) (z := 0) D401_95 rfl ?_
    have hg4 := hP
    refine im_lif (q := 97) (q2 := 100) (t := 104) D401_96 D401_97 rfl hg4 (by decide) (fun hc5 => ?_) (fun hc5 => ?_)
    · refine im_iconst (q := 105) D401_104 ?_
      exact (kJ26 (0) (Or.inl ⟨hc3, hc5, rfl⟩)).wk trivial
    · refine im_iconst (q := 101) D401_100 ?_
      refine im_goto (q := 104) (t := 105) D401_101 rfl ?_
      exact (kJ26 (1) (Or.inr ⟨hc3, (Decidable.not_not.mp hc5), rfl⟩)).wk trivial
  · replace hP := hP.2 (Int.not_lt.mp hc3)
    refine im_ld (q := 13) (i := 0) D401_12 rfl rfl rfl ?_
    refine im_gfR (q := 16) (b := 6956) D401_13 (im_fl cn_401 fl_12_20) sf_6952 rfl rfl tR_12_9 rf_6952_9 ?_
    refine im_ld (q := 17) (i := 1) D401_16 rfl rfl rfl ?_
    refine im_ld (q := 19) (i := 7) D401_17 rfl rfl rfl ?_
    refine im_iadd (q := 20) D401_19 ?_
    obtain ⟨hg6, hP⟩ := hP
    refine im_rng (j := (p1 + p7)) sf_6956 hg6.1 hg6.2 (fun hr7 => ?_)
    refine im_lald (q := 21) D401_20 sf_6956 hg6.1 hg6.2 (by decide) rfl ?_
    refine im_ld (q := 23) (i := 5) D401_21 rfl rfl rfl ?_
    refine im_lsub (q := 24) D401_23 ?_
    refine im_ld (q := 26) (i := 7) D401_24 rfl rfl rfl ?_
    refine im_ld (q := 27) (i := 2) D401_26 rfl rfl rfl ?_
    refine im_icmp (q := 30) (t := 42) D401_27 rfl hg1 hg2 (fun hc8 => ?_) (fun hc8 => ?_)
    · refine im_lconst (q := 43) (z := 0) D401_42 rfl ?_
      exact (kJ14 (0) (Or.inl ⟨(Int.not_lt.mp hc3), hc8, rfl⟩)).wk ⟨rfl, rfl, rfl, rfl, rfl, trivial⟩
    · replace hP := hP (Int.not_le.mp hc8)
      refine im_ld (q := 31) (i := 3) D401_30 rfl rfl rfl ?_
      refine im_ld (q := 32) (i := 0) D401_31 rfl rfl rfl ?_
      refine im_gfR (q := 35) (b := 6957) D401_32 (im_fl cn_401 fl_12_24) sf_6952 rfl rfl tR_12_10 rf_6952_10 ?_
      refine im_ld (q := 37) (i := 7) D401_35 rfl rfl rfl ?_
      have hg9 := hP
      refine im_rng (j := p7) sf_6957 hg9.1 hg9.2 (fun hr10 => ?_)
      refine im_lald (q := 38) D401_37 sf_6957 hg9.1 hg9.2 (by decide) rfl ?_
      refine im_lmul (q := 39) D401_38 ?_
      refine im_goto (q := 42) (t := 43) D401_39 rfl ?_
      exact (kJ14 ((p3 * (M 6957 p7))) (Or.inr ⟨(Int.not_lt.mp hc3), (Int.not_le.mp hc8), rfl⟩)).wk ⟨rfl, rfl, rfl, rfl, rfl, trivial⟩
set_option maxRecDepth 20000 in
set_option maxHeartbeats 4000000 in
theorem b_giveBack_0 {g : im_g} {d : Nat} {e : im_E} {M : im_M} {K : im_K} {p1 p2 : Int} (hP : im_T g d 402 5 [some (.ref 6952), some (vI p1), some (vI p2), some (vL 0), none, some (vI 0), none, none] [] e M K) : im_T g d 402 0 [some (.ref 6952), some (vI p1), some (vI p2), none, none, none, none, none] [] e M K := by
  refine im_lconst (q := 1) (z := 0) D402_0 rfl ?_
  refine im_st2 (q := 2) (i := 3) (L' := [some (.ref 6952), some (vI p1), some (vI p2), some (vL 0), none, none, none, none]) D402_1 (Or.inl ⟨_, rfl, rfl⟩) (Nat.le_of_ble_eq_true rfl) rfl ?_
  refine im_iconst (q := 3) D402_2 ?_
  refine im_st1 (q := 5) (i := 5) (L' := [some (.ref 6952), some (vI p1), some (vI p2), some (vL 0), none, some (vI 0), none, none]) D402_3 (Or.inr rfl) (Nat.le_of_ble_eq_true rfl) rfl ?_
  exact hP.wk ⟨rfl, rfl, rfl, rfl, rfl, trivial⟩
set_option maxRecDepth 20000 in
set_option maxHeartbeats 4000000 in
theorem b_giveBack_5 {g : im_g} {d : Nat} {e : im_E} {M : im_M} {K : im_K} {p1 p2 p3 p5 : Int} (hP : (im_i32 p5) ∧ (im_i32 p2) ∧ ((((p2 < p5 → K (.inl none) e M) ∧ (p5 ≤ p2 → (0 ≤ (p1 + p5) ∧ (p1 + p5) < 72) ∧ ((p5 < p2 → (0 ≤ p5 ∧ p5 < 72)))))) ∧ (∀ x9 : Int, (((p5 ≤ p2) ∧ (p2 ≤ p5) ∧ x9 = 0) ∨ ((p5 ≤ p2) ∧ (p5 < p2) ∧ x9 = (M 6957 p5))) → (im_i64 (((M 6956 (p1 + p5)) + x9) + p3)) ∧ ((∀ x15 : Int, ((((((M 6956 (p1 + p5)) + x9) + p3) < 1000000000) ∧ x15 = 0) ∨ ((1000000000 ≤ (((M 6956 (p1 + p5)) + x9) + p3)) ∧ x15 = 1)) → (0 ≤ (p1 + p5) ∧ (p1 + p5) < 72) ∧ (im_i64 ((((M 6956 (p1 + p5)) + x9) + p3) - (x15 * 1000000000))) ∧ im_T g d 402 5 [some (.ref 6952), some (vI p1), some (vI p2), some (vL x15), none, some (vI (p5 + 1)), none, none] [] e (im_u M 6956 (p1 + p5) ((((M 6956 (p1 + p5)) + x9) + p3) - (x15 * 1000000000))) K))))) : im_T g d 402 5 [some (.ref 6952), some (vI p1), some (vI p2), some (vL p3), none, some (vI p5), none, none] [] e M K := by
  refine im_ld (q := 7) (i := 5) D402_5 rfl rfl rfl ?_
  refine im_ld (q := 8) (i := 2) D402_7 rfl rfl rfl ?_
  obtain ⟨hg1, hP⟩ := hP
  obtain ⟨hg2, hP⟩ := hP
  obtain ⟨hP, hJ10⟩ := hP
  have kJ11 : ∀ x9 : Int, (((p5 ≤ p2) ∧ (p2 ≤ p5) ∧ x9 = 0) ∨ ((p5 ≤ p2) ∧ (p5 < p2) ∧ x9 = (M 6957 p5))) → im_T g d 402 37 [some (.ref 6952), some (vI p1), some (vI p2), some (vL p3), none, some (vI p5), none, none] [vL x9, vL (M 6956 (p1 + p5))] e M K := by
    intro x9 hx12
    have hP := hJ10 x9 hx12
    refine im_ladd (q := 38) D402_37 ?_
    refine im_ld (q := 39) (i := 3) D402_38 rfl rfl rfl ?_
    refine im_ladd (q := 40) D402_39 ?_
    refine im_st2 (q := 42) (i := 6) (L' := [some (.ref 6952), some (vI p1), some (vI p2), some (vL p3), none, some (vI p5), some (vL (((M 6956 (p1 + p5)) + x9) + p3)), none]) D402_40 (Or.inr rfl) (Nat.le_of_ble_eq_true rfl) rfl ?_
    refine im_ld (q := 44) (i := 6) D402_42 rfl rfl rfl ?_
    refine im_ldc2 (q := 47) (n := 1000000000) D402_44 rfl ?_
    obtain ⟨hg13, hP⟩ := hP
    have hJ16 := hP
    have kJ17 : ∀ x15 : Int, ((((((M 6956 (p1 + p5)) + x9) + p3) < 1000000000) ∧ x15 = 0) ∨ ((1000000000 ≤ (((M 6956 (p1 + p5)) + x9) + p3)) ∧ x15 = 1)) → im_T g d 402 56 [some (.ref 6952), some (vI p1), some (vI p2), none, none, some (vI p5), some (vL (((M 6956 (p1 + p5)) + x9) + p3)), none] [vL x15] e M K := by
      intro x15 hx18
      have hP := hJ16 x15 hx18
      refine im_st2 (q := 57) (i := 3) (L' := [some (.ref 6952), some (vI p1), some (vI p2), some (vL x15), none, some (vI p5), some (vL (((M 6956 (p1 + p5)) + x9) + p3)), none]) D402_56 (Or.inl ⟨_, rfl, rfl⟩) (Nat.le_of_ble_eq_true rfl) rfl ?_
      refine im_ld (q := 58) (i := 0) D402_57 rfl rfl rfl ?_
      refine im_gfR (q := 61) (b := 6956) D402_58 (im_fl cn_402 fl_12_20) sf_6952 rfl rfl tR_12_9 rf_6952_9 ?_
      refine im_ld (q := 62) (i := 1) D402_61 rfl rfl rfl ?_
      refine im_ld (q := 64) (i := 5) D402_62 rfl rfl rfl ?_
      refine im_iadd (q := 65) D402_64 ?_
      refine im_ld (q := 67) (i := 6) D402_65 rfl rfl rfl ?_
      refine im_ld (q := 68) (i := 3) D402_67 rfl rfl rfl ?_
      refine im_ldc2 (q := 71) (n := 1000000000) D402_68 rfl ?_
      refine im_lmul (q := 72) D402_71 ?_
      refine im_lsub (q := 73) D402_72 ?_
      obtain ⟨hg19, hP⟩ := hP
      obtain ⟨hg20, hP⟩ := hP
      refine im_last (q := 74) D402_73 sf_6956 hg19.1 hg19.2 (by decide) hg20 ?_
      refine im_iinc (q := 77) (i := 5) (L' := [some (.ref 6952), some (vI p1), some (vI p2), some (vL x15), none, some (vI (p5 + 1)), some (vL (((M 6956 (p1 + p5)) + x9) + p3)), none]) D402_74 rfl (Nat.le_of_ble_eq_true rfl) rfl ?_
      refine im_goto (q := 80) (t := 5) D402_77 rfl ?_
      exact hP.wk ⟨rfl, rfl, rfl, rfl, rfl, trivial⟩
    refine im_lif (q := 48) (q2 := 51) (t := 55) D402_47 D402_48 rfl hg13 (by decide) (fun hc14 => ?_) (fun hc14 => ?_)
    · refine im_lconst (q := 56) (z := 0) D402_55 rfl ?_
      exact (kJ17 (0) (Or.inl ⟨hc14, rfl⟩)).wk ⟨rfl, rfl, rfl, rfl, rfl, trivial⟩
    · refine im_lconst (q := 52) (z := 1) D402_51 rfl ?_
      refine im_goto (q := 55) (t := 56) D402_52 rfl ?_
      exact (kJ17 (1) (Or.inr ⟨(Int.not_lt.mp hc14), rfl⟩)).wk ⟨rfl, rfl, rfl, rfl, rfl, trivial⟩
  refine im_icmp (q := 11) (t := 80) D402_8 rfl hg1 hg2 (fun hc3 => ?_) (fun hc3 => ?_)
  · replace hP := hP.1 hc3
    exact im_vret (q := 81) D402_80 rfl hP
  · replace hP := hP.2 (Int.not_lt.mp hc3)
    refine im_ld (q := 12) (i := 0) D402_11 rfl rfl rfl ?_
    refine im_gfR (q := 15) (b := 6956) D402_12 (im_fl cn_402 fl_12_20) sf_6952 rfl rfl tR_12_9 rf_6952_9 ?_
    refine im_ld (q := 16) (i := 1) D402_15 rfl rfl rfl ?_
    refine im_ld (q := 18) (i := 5) D402_16 rfl rfl rfl ?_
    refine im_iadd (q := 19) D402_18 ?_
    obtain ⟨hg4, hP⟩ := hP
    refine im_rng (j := (p1 + p5)) sf_6956 hg4.1 hg4.2 (fun hr5 => ?_)
    refine im_lald (q := 20) D402_19 sf_6956 hg4.1 hg4.2 (by decide) rfl ?_
    refine im_ld (q := 22) (i := 5) D402_20 rfl rfl rfl ?_
    refine im_ld (q := 23) (i := 2) D402_22 rfl rfl rfl ?_
    refine im_icmp (q := 26) (t := 36) D402_23 rfl hg1 hg2 (fun hc6 => ?_) (fun hc6 => ?_)
    · refine im_lconst (q := 37) (z := 0) D402_36 rfl ?_
      exact (kJ11 (0) (Or.inl ⟨(Int.not_lt.mp hc3), hc6, rfl⟩)).wk ⟨rfl, rfl, rfl, rfl, rfl, trivial⟩
    · replace hP := hP (Int.not_le.mp hc6)
      refine im_ld (q := 27) (i := 0) D402_26 rfl rfl rfl ?_
      refine im_gfR (q := 30) (b := 6957) D402_27 (im_fl cn_402 fl_12_24) sf_6952 rfl rfl tR_12_10 rf_6952_10 ?_
      refine im_ld (q := 32) (i := 5) D402_30 rfl rfl rfl ?_
      have hg7 := hP
      refine im_rng (j := p5) sf_6957 hg7.1 hg7.2 (fun hr8 => ?_)
      refine im_lald (q := 33) D402_32 sf_6957 hg7.1 hg7.2 (by decide) rfl ?_
      refine im_goto (q := 36) (t := 37) D402_33 rfl ?_
      exact (kJ11 ((M 6957 p5)) (Or.inr ⟨(Int.not_lt.mp hc3), (Int.not_le.mp hc6), rfl⟩)).wk ⟨rfl, rfl, rfl, rfl, rfl, trivial⟩
set_option maxRecDepth 20000 in
set_option maxHeartbeats 4000000 in
theorem b_placeAt_0 {g : im_g} {d : Nat} {e : im_E} {M : im_M} {K : im_K} {p1 p2 : Int} (hP : (0 ≤ (p1 + p2) ∧ (p1 + p2) < 72) ∧ (0 ≤ ((p1 + p2) - 1) ∧ ((p1 + p2) - 1) < 72) ∧ (0 ≤ (p2 - 1) ∧ (p2 - 1) < 72) ∧ (im_i64 (((M 6956 (p1 + p2)) * 1000000000) + (M 6956 ((p1 + p2) - 1)))) ∧ (¬ (M 6957 (p2 - 1)) = 0) ∧ (¬ (M 6957 (p2 - 1)) = 0) ∧ im_T g d 400 48 [some (.ref 6952), some (vI p1), some (vI p2), none, none, some (vL ((((M 6956 (p1 + p2)) * 1000000000) + (M 6956 ((p1 + p2) - 1))).tdiv (M 6957 (p2 - 1)))), none, some (vL ((((M 6956 (p1 + p2)) * 1000000000) + (M 6956 ((p1 + p2) - 1))).tmod (M 6957 (p2 - 1)))), none] [] e M K) : im_T g d 400 0 [some (.ref 6952), some (vI p1), some (vI p2), none, none, none, none, none, none] [] e M K := by
  refine im_ld (q := 1) (i := 0) D400_0 rfl rfl rfl ?_
  refine im_gfR (q := 4) (b := 6956) D400_1 (im_fl cn_400 fl_12_20) sf_6952 rfl rfl tR_12_9 rf_6952_9 ?_
  refine im_ld (q := 5) (i := 1) D400_4 rfl rfl rfl ?_
  refine im_ld (q := 6) (i := 2) D400_5 rfl rfl rfl ?_
  refine im_iadd (q := 7) D400_6 ?_
  obtain ⟨hg1, hP⟩ := hP
  refine im_rng (j := (p1 + p2)) sf_6956 hg1.1 hg1.2 (fun hr2 => ?_)
  refine im_lald (q := 8) D400_7 sf_6956 hg1.1 hg1.2 (by decide) rfl ?_
  refine im_ldc2 (q := 11) (n := 1000000000) D400_8 rfl ?_
  refine im_lmul (q := 12) D400_11 ?_
  refine im_ld (q := 13) (i := 0) D400_12 rfl rfl rfl ?_
  refine im_gfR (q := 16) (b := 6956) D400_13 (im_fl cn_400 fl_12_20) sf_6952 rfl rfl tR_12_9 rf_6952_9 ?_
  refine im_ld (q := 17) (i := 1) D400_16 rfl rfl rfl ?_
  refine im_ld (q := 18) (i := 2) D400_17 rfl rfl rfl ?_
  refine im_iadd (q := 19) D400_18 ?_
  refine im_iconst (q := 20) D400_19 ?_
  refine im_isub (q := 21) D400_20 ?_
  obtain ⟨hg3, hP⟩ := hP
  refine im_rng (j := ((p1 + p2) - 1)) sf_6956 hg3.1 hg3.2 (fun hr4 => ?_)
  refine im_lald (q := 22) D400_21 sf_6956 hg3.1 hg3.2 (by decide) rfl ?_
  refine im_ladd (q := 23) D400_22 ?_
  refine im_st2 (q := 24) (i := 3) (L' := [some (.ref 6952), some (vI p1), some (vI p2), some (vL (((M 6956 (p1 + p2)) * 1000000000) + (M 6956 ((p1 + p2) - 1)))), none, none, none, none, none]) D400_23 (Or.inl ⟨_, rfl, rfl⟩) (Nat.le_of_ble_eq_true rfl) rfl ?_
  refine im_ld (q := 25) (i := 3) D400_24 rfl rfl rfl ?_
  refine im_ld (q := 26) (i := 0) D400_25 rfl rfl rfl ?_
  refine im_gfR (q := 29) (b := 6957) D400_26 (im_fl cn_400 fl_12_24) sf_6952 rfl rfl tR_12_10 rf_6952_10 ?_
  refine im_ld (q := 30) (i := 2) D400_29 rfl rfl rfl ?_
  refine im_iconst (q := 31) D400_30 ?_
  refine im_isub (q := 32) D400_31 ?_
  obtain ⟨hg5, hP⟩ := hP
  refine im_rng (j := (p2 - 1)) sf_6957 hg5.1 hg5.2 (fun hr6 => ?_)
  refine im_lald (q := 33) D400_32 sf_6957 hg5.1 hg5.2 (by decide) rfl ?_
  obtain ⟨hg7, hP⟩ := hP
  obtain ⟨hg8, hP⟩ := hP
  refine im_ldiv (q := 34) D400_33 hg7 hr6 hg8 ?_
  refine im_st2 (q := 36) (i := 5) (L' := [some (.ref 6952), some (vI p1), some (vI p2), some (vL (((M 6956 (p1 + p2)) * 1000000000) + (M 6956 ((p1 + p2) - 1)))), none, some (vL ((((M 6956 (p1 + p2)) * 1000000000) + (M 6956 ((p1 + p2) - 1))).tdiv (M 6957 (p2 - 1)))), none, none, none]) D400_34 (Or.inr rfl) (Nat.le_of_ble_eq_true rfl) rfl ?_
  refine im_ld (q := 37) (i := 3) D400_36 rfl rfl rfl ?_
  refine im_ld (q := 38) (i := 0) D400_37 rfl rfl rfl ?_
  refine im_gfR (q := 41) (b := 6957) D400_38 (im_fl cn_400 fl_12_24) sf_6952 rfl rfl tR_12_10 rf_6952_10 ?_
  refine im_ld (q := 42) (i := 2) D400_41 rfl rfl rfl ?_
  refine im_iconst (q := 43) D400_42 ?_
  refine im_isub (q := 44) D400_43 ?_
  refine im_lald (q := 45) D400_44 sf_6957 hg5.1 hg5.2 (by decide) rfl ?_
  obtain ⟨hg10, hP⟩ := hP
  refine im_lrem (q := 46) D400_45 hg7 hr6 hg10 ?_
  refine im_st2 (q := 48) (i := 7) (L' := [some (.ref 6952), some (vI p1), some (vI p2), some (vL (((M 6956 (p1 + p2)) * 1000000000) + (M 6956 ((p1 + p2) - 1)))), none, some (vL ((((M 6956 (p1 + p2)) * 1000000000) + (M 6956 ((p1 + p2) - 1))).tdiv (M 6957 (p2 - 1)))), none, some (vL ((((M 6956 (p1 + p2)) * 1000000000) + (M 6956 ((p1 + p2) - 1))).tmod (M 6957 (p2 - 1)))), none]) D400_46 (Or.inr rfl) (Nat.le_of_ble_eq_true rfl) rfl ?_
  exact hP.wk ⟨rfl, rfl, rfl, rfl, rfl, trivial⟩
set_option maxRecDepth 20000 in
set_option maxHeartbeats 4000000 in
theorem b_placeAt_48 {g : im_g} {d : Nat} {e : im_E} {M : im_M} {K : im_K} {p1 p2 p5 p7 : Int} (hd : 1 ≤ d) (hP : (im_i64 p7) ∧ ((((p7 < 1000000000 → (im_i64 p5) ∧ ((p5 < 1000000000 → (im_i32 p2) ∧ ((1 < p2 → (0 ≤ (p2 - 2) ∧ (p2 - 2) < 72) ∧ (0 ≤ ((p1 + p2) - 2) ∧ ((p1 + p2) - 2) < 72) ∧ (im_i64 (p5 * (M 6957 (p2 - 2)))) ∧ (im_i64 ((p7 * 1000000000) + (M 6956 ((p1 + p2) - 2))))))))))) ∧ ((((p7 < 1000000000) ∧ (1000000000 ≤ p5)) ∨ ((p7 < 1000000000) ∧ (p5 < 1000000000) ∧ (1 < p2) ∧ (((p7 * 1000000000) + (M 6956 ((p1 + p2) - 2))) < (p5 * (M 6957 (p2 - 2)))))) → (0 ≤ (p2 - 1) ∧ (p2 - 1) < 72) ∧ im_T g d 400 48 [some (.ref 6952), some (vI p1), some (vI p2), none, none, some (vL (p5 - 1)), none, some (vL (p7 + (M 6957 (p2 - 1)))), none] [] e M K) ∧ ((((1000000000 ≤ p7)) ∨ ((p7 < 1000000000) ∧ (p5 < 1000000000) ∧ (p2 ≤ 1)) ∨ ((p7 < 1000000000) ∧ (p5 < 1000000000) ∧ (1 < p2) ∧ ((p5 * (M 6957 (p2 - 2))) ≤ ((p7 * 1000000000) + (M 6956 ((p1 + p2) - 2)))))) → im_T g (d - 1) 401 0 [some (.ref 6952), some (vI p1), some (vI p2), some (vL p5), none, none, none, none, none, none] [] e M (im_ri (fun x23 e_ M22 => e = e_ ∧ (im_i32 x23) ∧ ((¬ x23 = 0 → K (.inl (some (vL p5))) e M22) ∧ (x23 = 0 → im_T g (d - 1) 402 0 [some (.ref 6952), some (vI p1), some (vI p2), none, none, none, none, none] [] e M22 (im_r0 (fun  e_ M26 => e = e_ ∧ K (.inl (some (vL (p5 - 1)))) e M26))))))))) : im_T g d 400 48 [some (.ref 6952), some (vI p1), some (vI p2), none, none, some (vL p5), none, some (vL p7), none] [] e M K := by
  refine im_ld (q := 50) (i := 7) D400_48 rfl rfl rfl ?_
  refine im_ldc2 (q := 53) (n := 1000000000) D400_50 rfl ?_
  obtain ⟨hg1, hP⟩ := hP
  obtain ⟨hP, hJ14, hJ19⟩ := hP
  have kJ15 : (((p7 < 1000000000) ∧ (1000000000 ≤ p5)) ∨ ((p7 < 1000000000) ∧ (p5 < 1000000000) ∧ (1 < p2) ∧ (((p7 * 1000000000) + (M 6956 ((p1 + p2) - 2))) < (p5 * (M 6957 (p2 - 2)))))) → im_T g d 400 103 [some (.ref 6952), some (vI p1), some (vI p2), none, none, some (vL p5), none, some (vL p7), none] [] e M K := by
    intro  hx16
    have hP := hJ14  hx16
    refine im_ld (q := 105) (i := 5) D400_103 rfl rfl rfl ?_
    refine im_lconst (q := 106) (z := 1) D400_105 rfl ?_
    refine im_lsub (q := 107) D400_106 ?_
    refine im_st2 (q := 109) (i := 5) (L' := [some (.ref 6952), some (vI p1), some (vI p2), none, none, some (vL (p5 - 1)), none, some (vL p7), none]) D400_107 (Or.inr rfl) (Nat.le_of_ble_eq_true rfl) rfl ?_
    refine im_ld (q := 111) (i := 7) D400_109 rfl rfl rfl ?_
    refine im_ld (q := 112) (i := 0) D400_111 rfl rfl rfl ?_
    refine im_gfR (q := 115) (b := 6957) D400_112 (im_fl cn_400 fl_12_24) sf_6952 rfl rfl tR_12_10 rf_6952_10 ?_
    refine im_ld (q := 116) (i := 2) D400_115 rfl rfl rfl ?_
    refine im_iconst (q := 117) D400_116 ?_
    refine im_isub (q := 118) D400_117 ?_
    obtain ⟨hg17, hP⟩ := hP
    refine im_rng (j := (p2 - 1)) sf_6957 hg17.1 hg17.2 (fun hr18 => ?_)
    refine im_lald (q := 119) D400_118 sf_6957 hg17.1 hg17.2 (by decide) rfl ?_
    refine im_ladd (q := 120) D400_119 ?_
    refine im_st2 (q := 122) (i := 7) (L' := [some (.ref 6952), some (vI p1), some (vI p2), none, none, some (vL (p5 - 1)), none, some (vL (p7 + (M 6957 (p2 - 1)))), none]) D400_120 (Or.inr rfl) (Nat.le_of_ble_eq_true rfl) rfl ?_
    refine im_goto (q := 125) (t := 48) D400_122 rfl ?_
    exact hP.wk ⟨rfl, rfl, rfl, rfl, rfl, trivial⟩
  have kJ20 : (((1000000000 ≤ p7)) ∨ ((p7 < 1000000000) ∧ (p5 < 1000000000) ∧ (p2 ≤ 1)) ∨ ((p7 < 1000000000) ∧ (p5 < 1000000000) ∧ (1 < p2) ∧ ((p5 * (M 6957 (p2 - 2))) ≤ ((p7 * 1000000000) + (M 6956 ((p1 + p2) - 2)))))) → im_T g d 400 125 [some (.ref 6952), some (vI p1), some (vI p2), none, none, some (vL p5), none, none, none] [] e M K := by
    intro  hx21
    have hP := hJ19  hx21
    refine im_ld (q := 126) (i := 0) D400_125 rfl rfl rfl ?_
    refine im_ld (q := 127) (i := 1) D400_126 rfl rfl rfl ?_
    refine im_ld (q := 128) (i := 2) D400_127 rfl rfl rfl ?_
    refine im_ld (q := 130) (i := 5) D400_128 rfl rfl rfl ?_
    refine im_callV (q := 133) (kd := 1) (y := 401) (n := 3) (ci := 12) (a := 6952) (vs := [.ref 6952, vI p1, vI p2, vL p5]) (r := []) (L2 := [some (.ref 6952), some (vI p1), some (vI p2), some (vL p5), none, none, none, none, none, none]) D400_130 (im_cal cn_400 cl_12_486) (Or.inl rfl) rfl sf_6952 rfl rfl rfl rfl hd ⟨rfl, rfl, rfl, rfl, trivial⟩ ?_
    refine hP.mono ?_
    rintro _ e28 M22 ⟨x23, rfl, rfl, hP⟩
    refine im_bkS ?_
    obtain ⟨hg24, hP⟩ := hP
    refine im_ifc (q := 136) (t := 148) D400_133 rfl hg24 (fun hc25 => ?_) (fun hc25 => ?_)
    · replace hP := hP.1 hc25
      refine im_ld (q := 150) (i := 5) D400_148 rfl rfl rfl ?_
      exact im_lret (q := 151) D400_150 rfl hP
    · replace hP := hP.2 (Decidable.not_not.mp hc25)
      refine im_ld (q := 137) (i := 0) D400_136 rfl rfl rfl ?_
      refine im_ld (q := 138) (i := 1) D400_137 rfl rfl rfl ?_
      refine im_ld (q := 139) (i := 2) D400_138 rfl rfl rfl ?_
      refine im_callV (q := 142) (kd := 1) (y := 402) (n := 2) (ci := 12) (a := 6952) (vs := [.ref 6952, vI p1, vI p2]) (r := []) (L2 := [some (.ref 6952), some (vI p1), some (vI p2), none, none, none, none, none]) D400_139 (im_cal cn_400 cl_12_490) (Or.inl rfl) rfl sf_6952 rfl rfl rfl rfl hd ⟨rfl, rfl, rfl, trivial⟩ ?_
      refine hP.mono ?_
      rintro _ e27 M26 ⟨rfl, rfl, hP⟩
      refine im_bkN ?_
      refine im_ld (q := 144) (i := 5) D400_142 rfl rfl rfl ?_
      refine im_lconst (q := 145) (z := 1) D400_144 rfl ?_
      refine im_lsub (q := 146) D400_145 ?_
      refine im_st2 (q := 148) (i := 5) (L' := [some (.ref 6952), some (vI p1), some (vI p2), none, none, some (vL (p5 - 1)), none, none, none]) D400_146 (Or.inr rfl) (Nat.le_of_ble_eq_true rfl) rfl ?_
      refine im_ld (q := 150) (i := 5) D400_148 rfl rfl rfl ?_
      exact im_lret (q := 151) D400_150 rfl hP
  refine im_lif (q := 54) (q2 := 57) (t := 125) D400_53 D400_54 rfl hg1 (by decide) (fun hc2 => ?_) (fun hc2 => ?_)
  · exact (kJ20  (Or.inl hc2)).wk ⟨rfl, rfl, rfl, rfl, trivial⟩
  · replace hP := hP (Int.not_le.mp hc2)
    refine im_ld (q := 59) (i := 5) D400_57 rfl rfl rfl ?_
    refine im_ldc2 (q := 62) (n := 1000000000) D400_59 rfl ?_
    obtain ⟨hg3, hP⟩ := hP
    refine im_lif (q := 63) (q2 := 66) (t := 103) D400_62 D400_63 rfl hg3 (by decide) (fun hc4 => ?_) (fun hc4 => ?_)
    · exact (kJ15  (Or.inl ⟨(Int.not_le.mp hc2), hc4⟩)).wk ⟨rfl, rfl, rfl, rfl, rfl, trivial⟩
    · replace hP := hP (Int.not_le.mp hc4)
      refine im_ld (q := 67) (i := 2) D400_66 rfl rfl rfl ?_
      refine im_iconst (q := 68) D400_67 ?_
      obtain ⟨hg5, hP⟩ := hP
      refine im_icmp (q := 71) (t := 125) D400_68 rfl hg5 (by decide) (fun hc6 => ?_) (fun hc6 => ?_)
      · exact (kJ20  (Or.inr (Or.inl ⟨(Int.not_le.mp hc2), (Int.not_le.mp hc4), hc6⟩))).wk ⟨rfl, rfl, rfl, rfl, trivial⟩
      · replace hP := hP (Int.not_le.mp hc6)
        refine im_ld (q := 73) (i := 5) D400_71 rfl rfl rfl ?_
        refine im_ld (q := 74) (i := 0) D400_73 rfl rfl rfl ?_
        refine im_gfR (q := 77) (b := 6957) D400_74 (im_fl cn_400 fl_12_24) sf_6952 rfl rfl tR_12_10 rf_6952_10 ?_
        refine im_ld (q := 78) (i := 2) D400_77 rfl rfl rfl ?_
        refine im_iconst (q := 79) D400_78 ?_
        refine im_isub (q := 80) D400_79 ?_
        obtain ⟨hg7, hP⟩ := hP
        refine im_rng (j := (p2 - 2)) sf_6957 hg7.1 hg7.2 (fun hr8 => ?_)
        refine im_lald (q := 81) D400_80 sf_6957 hg7.1 hg7.2 (by decide) rfl ?_
        refine im_lmul (q := 82) D400_81 ?_
        refine im_ld (q := 84) (i := 7) D400_82 rfl rfl rfl ?_
        refine im_ldc2 (q := 87) (n := 1000000000) D400_84 rfl ?_
        refine im_lmul (q := 88) D400_87 ?_
        refine im_ld (q := 89) (i := 0) D400_88 rfl rfl rfl ?_
        refine im_gfR (q := 92) (b := 6956) D400_89 (im_fl cn_400 fl_12_20) sf_6952 rfl rfl tR_12_9 rf_6952_9 ?_
        refine im_ld (q := 93) (i := 1) D400_92 rfl rfl rfl ?_
        refine im_ld (q := 94) (i := 2) D400_93 rfl rfl rfl ?_
        refine im_iadd (q := 95) D400_94 ?_
        refine im_iconst (q := 96) D400_95 ?_
        refine im_isub (q := 97) D400_96 ?_
        obtain ⟨hg9, hP⟩ := hP
        refine im_rng (j := ((p1 + p2) - 2)) sf_6956 hg9.1 hg9.2 (fun hr10 => ?_)
        refine im_lald (q := 98) D400_97 sf_6956 hg9.1 hg9.2 (by decide) rfl ?_
        refine im_ladd (q := 99) D400_98 ?_
        obtain ⟨hg11, hP⟩ := hP
        have hg12 := hP
        refine im_lif (q := 100) (q2 := 103) (t := 125) D400_99 D400_100 rfl hg11 hg12 (fun hc13 => ?_) (fun hc13 => ?_)
        · exact (kJ20  (Or.inr (Or.inr ⟨(Int.not_le.mp hc2), (Int.not_le.mp hc4), (Int.not_le.mp hc6), hc13⟩))).wk ⟨rfl, rfl, rfl, rfl, trivial⟩
        · exact (kJ15  (Or.inr ⟨(Int.not_le.mp hc2), (Int.not_le.mp hc4), (Int.not_le.mp hc6), (Int.not_le.mp hc13)⟩)).wk ⟨rfl, rfl, rfl, rfl, rfl, trivial⟩
set_option maxRecDepth 20000 in
set_option maxHeartbeats 4000000 in
theorem b_by_0 {g : im_g} {d : Nat} {e : im_E} {M : im_M} {K : im_K} {p1 p2 : Int} (hd : 1 ≤ d) (hP : (0 ≤ p2 ∧ p2 < 1100000) ∧ ((¬ (M 6955 p2) = 0 → im_T g (d - 1) 396 0 [some (.ref 6952), some (vI p1), some (.ref 6956), none, none, none, none, none] [] e M (im_ri (fun x5 e_ M4 => e = e_ ∧ im_T g (d - 1) 396 0 [some (.ref 6952), some (vI p2), some (.ref 6957), none, none, none, none, none] [] e M4 (im_ri (fun x7 e_ M6 => e = e_ ∧ (0 ≤ (x7 - 1) ∧ (x7 - 1) < 72) ∧ (im_i64 ((M6 6957 (x7 - 1)) + 1)) ∧ (¬ ((M6 6957 (x7 - 1)) + 1) = 0) ∧ im_T g (d - 1) 399 0 [some (.ref 6956), some (vI x5), some (vL (Int.tdiv 1000000000 ((M6 6957 (x7 - 1)) + 1))), none, none, none, none, none, none] [] e M6 (im_r0 (fun  e_ M12 => e = e_ ∧ im_T g (d - 1) 399 0 [some (.ref 6957), some (vI x7), some (vL (Int.tdiv 1000000000 ((M6 6957 (x7 - 1)) + 1))), none, none, none, none, none, none] [] e M12 (im_r0 (fun  e_ M13 => e = e_ ∧ (im_i32 x5) ∧ (im_i32 x7) ∧ ((∀ x18 : Int, (((x7 ≤ x5) ∧ x18 = ((x5 - x7) + 1)) ∨ ((x5 < x7) ∧ x18 = 0)) → im_T g d 398 103 [some (.ref 6952), some (vI p1), some (vI p2), none, some (vI x7), none, none, some (vI (M13 6952 7)), some (vI x18), some (vI (x18 - 1))] [] e M13 K))))))))))) ∧ ((M 6955 p2) = 0 → im_T g (d - 1) 386 0 [some (.ref 6952), none] [] e M (im_ri (fun x27 e_ M26 => e = e_ ∧ K (.inl (some (vI x27))) e M26))))) : im_T g d 398 0 [some (.ref 6952), some (vI p1), some (vI p2), none, none, none, none, none, none, none] [] e M K := by
  refine im_ld (q := 1) (i := 0) D398_0 rfl rfl rfl ?_
  refine im_gfR (q := 4) (b := 6955) D398_1 (im_fl cn_398 fl_12_17) sf_6952 rfl rfl tR_12_5 rf_6952_5 ?_
  refine im_ld (q := 5) (i := 2) D398_4 rfl rfl rfl ?_
  obtain ⟨hg1, hP⟩ := hP
  refine im_rng (j := p2) sf_6955 hg1.1 hg1.2 (fun hr2 => ?_)
  refine im_iald (q := 6) D398_5 sf_6955 hg1.1 hg1.2 (by decide) rfl ?_
  refine im_ifc (q := 9) (t := 14) D398_6 rfl hr2 (fun hc3 => ?_) (fun hc3 => ?_)
  · replace hP := hP.1 hc3
    refine im_ld (q := 15) (i := 0) D398_14 rfl rfl rfl ?_
    refine im_ld (q := 16) (i := 1) D398_15 rfl rfl rfl ?_
    refine im_ld (q := 17) (i := 0) D398_16 rfl rfl rfl ?_
    refine im_gfR (q := 20) (b := 6956) D398_17 (im_fl cn_398 fl_12_20) sf_6952 rfl rfl tR_12_9 rf_6952_9 ?_
    refine im_callV (q := 23) (kd := 1) (y := 396) (n := 2) (ci := 12) (a := 6952) (vs := [.ref 6952, vI p1, .ref 6956]) (r := []) (L2 := [some (.ref 6952), some (vI p1), some (.ref 6956), none, none, none, none, none]) D398_20 (im_cal cn_398 cl_12_474) (Or.inl rfl) rfl sf_6952 rfl rfl rfl rfl hd ⟨rfl, rfl, rfl, trivial⟩ ?_
    refine hP.mono ?_
    rintro _ e25 M4 ⟨x5, rfl, rfl, hP⟩
    refine im_bkS ?_
    refine im_st1 (q := 24) (i := 3) (L' := [some (.ref 6952), some (vI p1), some (vI p2), some (vI x5), none, none, none, none, none, none]) D398_23 (Or.inl ⟨_, rfl, rfl⟩) (Nat.le_of_ble_eq_true rfl) rfl ?_
    refine im_ld (q := 25) (i := 0) D398_24 rfl rfl rfl ?_
    refine im_ld (q := 26) (i := 2) D398_25 rfl rfl rfl ?_
    refine im_ld (q := 27) (i := 0) D398_26 rfl rfl rfl ?_
    refine im_gfR (q := 30) (b := 6957) D398_27 (im_fl cn_398 fl_12_24) sf_6952 rfl rfl tR_12_10 rf_6952_10 ?_
    refine im_callV (q := 33) (kd := 1) (y := 396) (n := 2) (ci := 12) (a := 6952) (vs := [.ref 6952, vI p2, .ref 6957]) (r := []) (L2 := [some (.ref 6952), some (vI p2), some (.ref 6957), none, none, none, none, none]) D398_30 (im_cal cn_398 cl_12_474) (Or.inl rfl) rfl sf_6952 rfl rfl rfl rfl hd ⟨rfl, rfl, rfl, trivial⟩ ?_
    refine hP.mono ?_
    rintro _ e24 M6 ⟨x7, rfl, rfl, hP⟩
    refine im_bkS ?_
    refine im_st1 (q := 35) (i := 4) (L' := [some (.ref 6952), some (vI p1), some (vI p2), some (vI x5), some (vI x7), none, none, none, none, none]) D398_33 (Or.inr rfl) (Nat.le_of_ble_eq_true rfl) rfl ?_
    refine im_ldc2 (q := 38) (n := 1000000000) D398_35 rfl ?_
    refine im_ld (q := 39) (i := 0) D398_38 rfl rfl rfl ?_
    refine im_gfR (q := 42) (b := 6957) D398_39 (im_fl cn_398 fl_12_24) sf_6952 rfl rfl tR_12_10 rf_6952_10 ?_
    refine im_ld (q := 44) (i := 4) D398_42 rfl rfl rfl ?_
    refine im_iconst (q := 45) D398_44 ?_
    refine im_isub (q := 46) D398_45 ?_
    obtain ⟨hg8, hP⟩ := hP
    refine im_rng (j := (x7 - 1)) sf_6957 hg8.1 hg8.2 (fun hr9 => ?_)
    refine im_lald (q := 47) D398_46 sf_6957 hg8.1 hg8.2 (by decide) rfl ?_
    refine im_lconst (q := 48) (z := 1) D398_47 rfl ?_
    refine im_ladd (q := 49) D398_48 ?_
    obtain ⟨hg10, hP⟩ := hP
    obtain ⟨hg11, hP⟩ := hP
    refine im_ldiv (q := 50) D398_49 (by decide) hg10 hg11 ?_
    refine im_st2 (q := 52) (i := 5) (L' := [some (.ref 6952), some (vI p1), some (vI p2), some (vI x5), some (vI x7), some (vL (Int.tdiv 1000000000 ((M6 6957 (x7 - 1)) + 1))), none, none, none, none]) D398_50 (Or.inr rfl) (Nat.le_of_ble_eq_true rfl) rfl ?_
    refine im_ld (q := 53) (i := 0) D398_52 rfl rfl rfl ?_
    refine im_gfR (q := 56) (b := 6956) D398_53 (im_fl cn_398 fl_12_20) sf_6952 rfl rfl tR_12_9 rf_6952_9 ?_
    refine im_ld (q := 57) (i := 3) D398_56 rfl rfl rfl ?_
    refine im_ld (q := 59) (i := 5) D398_57 rfl rfl rfl ?_
    refine im_callS (q := 62) (kd := 0) (y := 399) (n := 3) (z := 12) (vs := [.ref 6956, vI x5, vL (Int.tdiv 1000000000 ((M6 6957 (x7 - 1)) + 1))]) (r := []) (L2 := [some (.ref 6956), some (vI x5), some (vL (Int.tdiv 1000000000 ((M6 6957 (x7 - 1)) + 1))), none, none, none, none, none, none]) D398_59 rfl (im_cal cn_398 cl_12_497) (Or.inl rfl) rfl rfl rfl rfl rfl hd ⟨rfl, rfl, rfl, trivial⟩ ?_
    refine hP.mono ?_
    rintro _ e23 M12 ⟨rfl, rfl, hP⟩
    refine im_bkN ?_
    refine im_ld (q := 63) (i := 0) D398_62 rfl rfl rfl ?_
    refine im_gfR (q := 66) (b := 6957) D398_63 (im_fl cn_398 fl_12_24) sf_6952 rfl rfl tR_12_10 rf_6952_10 ?_
    refine im_ld (q := 68) (i := 4) D398_66 rfl rfl rfl ?_
    refine im_ld (q := 70) (i := 5) D398_68 rfl rfl rfl ?_
    refine im_callS (q := 73) (kd := 0) (y := 399) (n := 3) (z := 12) (vs := [.ref 6957, vI x7, vL (Int.tdiv 1000000000 ((M6 6957 (x7 - 1)) + 1))]) (r := []) (L2 := [some (.ref 6957), some (vI x7), some (vL (Int.tdiv 1000000000 ((M6 6957 (x7 - 1)) + 1))), none, none, none, none, none, none]) D398_70 rfl (im_cal cn_398 cl_12_497) (Or.inl rfl) rfl rfl rfl rfl rfl hd ⟨rfl, rfl, rfl, trivial⟩ ?_
    refine hP.mono ?_
    rintro _ e22 M13 ⟨rfl, rfl, hP⟩
    refine im_bkN ?_
    refine im_ld (q := 74) (i := 0) D398_73 rfl rfl rfl ?_
    refine im_rng (j := 7) sf_6952 (by decide) (by decide) (fun hr14 => ?_)
    refine im_gfI (q := 77) D398_74 (im_fl cn_398 fl_12_449) sf_6952 rfl rfl tI_12_7 rfl ?_
    refine im_st1 (q := 79) (i := 7) (L' := [some (.ref 6952), some (vI p1), some (vI p2), some (vI x5), some (vI x7), some (vL (Int.tdiv 1000000000 ((M6 6957 (x7 - 1)) + 1))), none, some (vI (M13 6952 7)), none, none]) D398_77 (Or.inr rfl) (Nat.le_of_ble_eq_true rfl) rfl ?_
    refine im_ld (q := 80) (i := 3) D398_79 rfl rfl rfl ?_
    refine im_ld (q := 82) (i := 4) D398_80 rfl rfl rfl ?_
    obtain ⟨hg15, hP⟩ := hP
    obtain ⟨hg16, hP⟩ := hP
    have hJ19 := hP
    have kJ20 : ∀ x18 : Int, (((x7 ≤ x5) ∧ x18 = ((x5 - x7) + 1)) ∨ ((x5 < x7) ∧ x18 = 0)) → im_T g d 398 95 [some (.ref 6952), some (vI p1), some (vI p2), none, some (vI x7), none, none, some (vI (M13 6952 7)), none, none] [vI x18] e M13 K := by
      intro x18 hx21
      have hP := hJ19 x18 hx21
      refine im_st1 (q := 97) (i := 8) (L' := [some (.ref 6952), some (vI p1), some (vI p2), none, some (vI x7), none, none, some (vI (M13 6952 7)), some (vI x18), none]) D398_95 (Or.inr rfl) (Nat.le_of_ble_eq_true rfl) rfl ?_
      refine im_ld (q := 99) (i := 8) D398_97 rfl rfl rfl ?_
      refine im_iconst (q := 100) D398_99 ?_
      refine im_isub (q := 101) D398_100 ?_
      refine im_st1 (q := 103) (i := 9) (L' := [some (.ref 6952), some (vI p1), some (vI p2), none, some (vI x7), none, none, some (vI (M13 6952 7)), some (vI x18), some (vI (x18 - 1))]) D398_101 (Or.inr rfl) (Nat.le_of_ble_eq_true rfl) rfl ?_
      exact hP.wk ⟨rfl, rfl, rfl, rfl, rfl, rfl, rfl, trivial⟩
    refine im_icmp (q := 85) (t := 89) D398_82 rfl hg15 hg16 (fun hc17 => ?_) (fun hc17 => ?_)
    · refine im_ld (q := 90) (i := 3) D398_89 rfl rfl rfl ?_
      refine im_ld (q := 92) (i := 4) D398_90 rfl rfl rfl ?_
      refine im_isub (q := 93) D398_92 ?_
      refine im_iconst (q := 94) D398_93 ?_
      refine im_iadd (q := 95) D398_94 ?_
      exact (kJ20 (((x5 - x7) + 1)) (Or.inl ⟨hc17, rfl⟩)).wk ⟨rfl, rfl, rfl, rfl, rfl, trivial⟩
    · refine im_iconst (q := 86) D398_85 ?_
      refine im_goto (q := 89) (t := 95) D398_86 rfl ?_
      exact (kJ20 (0) (Or.inr ⟨(Int.not_le.mp hc17), rfl⟩)).wk ⟨rfl, rfl, rfl, rfl, rfl, trivial⟩
  · replace hP := hP.2 (Decidable.not_not.mp hc3)
    refine im_ld (q := 10) (i := 0) D398_9 rfl rfl rfl ?_
    refine im_callV (q := 13) (kd := 1) (y := 386) (n := 0) (ci := 12) (a := 6952) (vs := [.ref 6952]) (r := []) (L2 := [some (.ref 6952), none]) D398_10 (im_cal cn_398 cl_12_493) (Or.inl rfl) rfl sf_6952 rfl rfl rfl rfl hd ⟨rfl, trivial⟩ ?_
    refine hP.mono ?_
    rintro _ e28 M26 ⟨x27, rfl, rfl, hP⟩
    refine im_bkS ?_
    exact im_iret (q := 14) D398_13 rfl hP
set_option maxRecDepth 20000 in
set_option maxHeartbeats 4000000 in
theorem b_by_103 {g : im_g} {d : Nat} {e : im_E} {M : im_M} {K : im_K} {p1 p2 p4 p7 p8 p9 : Int} (hd : 1 ≤ d) (hP : (im_i32 p9) ∧ ((p9 < 0 → im_T g (d - 1) 397 0 [some (.ref 6952), some (vI p7), some (vI p8), none] [] e M (im_r0 (fun  e_ M3 => e = e_ ∧ (0 ≤ p1 ∧ p1 < 1100000) ∧ (0 ≤ p2 ∧ p2 < 1100000) ∧ im_T g (d - 1) 292 0 [some (.ref 6952), some (vI p7), some (vI (9 * p8)), some (vI ((M3 6955 p1) * (M3 6955 p2))), none] [] e M3 (im_ri (fun x9 e_ M8 => e = e_ ∧ K (.inl (some (vI x9))) e M8))))) ∧ (0 ≤ p9 → im_T g (d - 1) 400 0 [some (.ref 6952), some (vI p9), some (vI p4), none, none, none, none, none, none] [] e M (im_rl (fun x13 e_ M12 => e = e_ ∧ (0 ≤ p9 ∧ p9 < 72) ∧ (im_i64 x13) ∧ im_T g d 398 103 [some (.ref 6952), some (vI p1), some (vI p2), none, some (vI p4), none, none, some (vI p7), some (vI p8), some (vI (p9 + (-1)))] [] e (im_u M12 6958 p9 x13) K))))) : im_T g d 398 103 [some (.ref 6952), some (vI p1), some (vI p2), none, some (vI p4), none, none, some (vI p7), some (vI p8), some (vI p9)] [] e M K := by
  refine im_ld (q := 105) (i := 9) D398_103 rfl rfl rfl ?_
  obtain ⟨hg1, hP⟩ := hP
  refine im_ifc (q := 108) (t := 129) D398_105 rfl hg1 (fun hc2 => ?_) (fun hc2 => ?_)
  · replace hP := hP.1 hc2
    refine im_ld (q := 130) (i := 0) D398_129 rfl rfl rfl ?_
    refine im_ld (q := 132) (i := 7) D398_130 rfl rfl rfl ?_
    refine im_ld (q := 134) (i := 8) D398_132 rfl rfl rfl ?_
    refine im_callV (q := 137) (kd := 1) (y := 397) (n := 2) (ci := 12) (a := 6952) (vs := [.ref 6952, vI p7, vI p8]) (r := []) (L2 := [some (.ref 6952), some (vI p7), some (vI p8), none]) D398_134 (im_cal cn_398 cl_12_480) (Or.inl rfl) rfl sf_6952 rfl rfl rfl rfl hd ⟨rfl, rfl, rfl, trivial⟩ ?_
    refine hP.mono ?_
    rintro _ e11 M3 ⟨rfl, rfl, hP⟩
    refine im_bkN ?_
    refine im_ld (q := 138) (i := 0) D398_137 rfl rfl rfl ?_
    refine im_ld (q := 140) (i := 7) D398_138 rfl rfl rfl ?_
    refine im_bipush (q := 142) D398_140 rfl ?_
    refine im_ld (q := 144) (i := 8) D398_142 rfl rfl rfl ?_
    refine im_imul (q := 145) D398_144 ?_
    refine im_ld (q := 146) (i := 0) D398_145 rfl rfl rfl ?_
    refine im_gfR (q := 149) (b := 6955) D398_146 (im_fl cn_398 fl_12_17) sf_6952 rfl rfl tR_12_5 rf_6952_5 ?_
    refine im_ld (q := 150) (i := 1) D398_149 rfl rfl rfl ?_
    obtain ⟨hg4, hP⟩ := hP
    refine im_rng (j := p1) sf_6955 hg4.1 hg4.2 (fun hr5 => ?_)
    refine im_iald (q := 151) D398_150 sf_6955 hg4.1 hg4.2 (by decide) rfl ?_
    refine im_ld (q := 152) (i := 0) D398_151 rfl rfl rfl ?_
    refine im_gfR (q := 155) (b := 6955) D398_152 (im_fl cn_398 fl_12_17) sf_6952 rfl rfl tR_12_5 rf_6952_5 ?_
    refine im_ld (q := 156) (i := 2) D398_155 rfl rfl rfl ?_
    obtain ⟨hg6, hP⟩ := hP
    refine im_rng (j := p2) sf_6955 hg6.1 hg6.2 (fun hr7 => ?_)
    refine im_iald (q := 157) D398_156 sf_6955 hg6.1 hg6.2 (by decide) rfl ?_
    refine im_imul (q := 158) D398_157 ?_
    refine im_callV (q := 161) (kd := 1) (y := 292) (n := 3) (ci := 12) (a := 6952) (vs := [.ref 6952, vI p7, vI (9 * p8), vI ((M3 6955 p1) * (M3 6955 p2))]) (r := []) (L2 := [some (.ref 6952), some (vI p7), some (vI (9 * p8)), some (vI ((M3 6955 p1) * (M3 6955 p2))), none]) D398_158 (im_cal cn_398 cl_12_455) (Or.inl rfl) rfl sf_6952 rfl rfl rfl rfl hd ⟨rfl, rfl, rfl, rfl, trivial⟩ ?_
    refine hP.mono ?_
    rintro _ e10 M8 ⟨x9, rfl, rfl, hP⟩
    refine im_bkS ?_
    exact im_iret (q := 162) D398_161 rfl hP
  · replace hP := hP.2 (Int.not_lt.mp hc2)
    refine im_ld (q := 109) (i := 0) D398_108 rfl rfl rfl ?_
    refine im_gfR (q := 112) (b := 6958) D398_109 (im_fl cn_398 fl_12_27) sf_6952 rfl rfl tR_12_11 rf_6952_11 ?_
    refine im_ld (q := 114) (i := 9) D398_112 rfl rfl rfl ?_
    refine im_ld (q := 115) (i := 0) D398_114 rfl rfl rfl ?_
    refine im_ld (q := 117) (i := 9) D398_115 rfl rfl rfl ?_
    refine im_ld (q := 119) (i := 4) D398_117 rfl rfl rfl ?_
    refine im_callV (q := 122) (kd := 1) (y := 400) (n := 2) (ci := 12) (a := 6952) (vs := [.ref 6952, vI p9, vI p4]) (r := [vI p9, .ref 6958]) (L2 := [some (.ref 6952), some (vI p9), some (vI p4), none, none, none, none, none, none]) D398_119 (im_cal cn_398 cl_12_501) (Or.inl rfl) rfl sf_6952 rfl rfl rfl rfl hd ⟨rfl, rfl, rfl, trivial⟩ ?_
    refine hP.mono ?_
    rintro _ e16 M12 ⟨x13, rfl, rfl, hP⟩
    refine im_bkS ?_
    obtain ⟨hg14, hP⟩ := hP
    obtain ⟨hg15, hP⟩ := hP
    refine im_last (q := 123) D398_122 sf_6958 hg14.1 hg14.2 (by decide) hg15 ?_
    refine im_iinc (q := 126) (i := 9) (L' := [some (.ref 6952), some (vI p1), some (vI p2), none, some (vI p4), none, none, some (vI p7), some (vI p8), some (vI (p9 + (-1)))]) D398_123 rfl (Nat.le_of_ble_eq_true rfl) rfl ?_
    refine im_goto (q := 129) (t := 103) D398_126 rfl ?_
    exact hP.wk ⟨rfl, rfl, rfl, rfl, rfl, rfl, rfl, trivial⟩

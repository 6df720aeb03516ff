/-! blocks of the class -/
theorem D192_0 {g : im_g} : im_D g 192 0 (.iconst 0) 1 := im_D.of (by decide +kernel)
theorem D192_1 {g : im_g} : im_D g 192 1 (.istore_n 2) 2 := im_D.of (by decide +kernel)
theorem D192_2 {g : im_g} : im_D g 192 2 (.iload_n 1) 3 := im_D.of (by decide +kernel)
theorem D192_3 {g : im_g} : im_D g 192 3 (.istore_n 3) 4 := im_D.of (by decide +kernel)
theorem D192_4 {g : im_g} : im_D g 192 4 (.iload_n 3) 5 := im_D.of (by decide +kernel)
theorem D192_5 {g : im_g} : im_D g 192 5 (.aload_n 0) 6 := im_D.of (by decide +kernel)
theorem D192_6 {g : im_g} : im_D g 192 6 (.getfield 15) 9 := im_D.of (by decide +kernel)
theorem D192_9 {g : im_g} : im_D g 192 9 (.iload_n 1) 10 := im_D.of (by decide +kernel)
theorem D192_10 {g : im_g} : im_D g 192 10 (.iaload) 11 := im_D.of (by decide +kernel)
theorem D192_11 {g : im_g} : im_D g 192 11 (.if_icmp .ge 20) 14 := im_D.of (by decide +kernel)
theorem D192_14 {g : im_g} : im_D g 192 14 (.iload_n 2) 15 := im_D.of (by decide +kernel)
theorem D192_15 {g : im_g} : im_D g 192 15 (.aload_n 0) 16 := im_D.of (by decide +kernel)
theorem D192_16 {g : im_g} : im_D g 192 16 (.getfield 21) 19 := im_D.of (by decide +kernel)
theorem D192_19 {g : im_g} : im_D g 192 19 (.iload_n 3) 20 := im_D.of (by decide +kernel)
theorem D192_20 {g : im_g} : im_D g 192 20 (.iaload) 21 := im_D.of (by decide +kernel)
theorem D192_21 {g : im_g} : im_D g 192 21 (.invokestatic 91) 24 := im_D.of (by decide +kernel)
theorem D192_24 {g : im_g} : im_D g 192 24 (.istore_n 2) 25 := im_D.of (by decide +kernel)
theorem D192_25 {g : im_g} : im_D g 192 25 (.iinc 3 1) 28 := im_D.of (by decide +kernel)
theorem D192_28 {g : im_g} : im_D g 192 28 (.goto (-24)) 31 := im_D.of (by decide +kernel)
theorem D192_31 {g : im_g} : im_D g 192 31 (.iload_n 2) 32 := im_D.of (by decide +kernel)
theorem D192_32 {g : im_g} : im_D g 192 32 (.ireturn) 33 := im_D.of (by decide +kernel)
theorem D193_0 {g : im_g} : im_D g 193 0 (.iconst 0) 1 := im_D.of (by decide +kernel)
theorem D193_1 {g : im_g} : im_D g 193 1 (.istore_n 2) 2 := im_D.of (by decide +kernel)
theorem D193_2 {g : im_g} : im_D g 193 2 (.iload_n 1) 3 := im_D.of (by decide +kernel)
theorem D193_3 {g : im_g} : im_D g 193 3 (.istore_n 3) 4 := im_D.of (by decide +kernel)
theorem D193_4 {g : im_g} : im_D g 193 4 (.iload_n 3) 5 := im_D.of (by decide +kernel)
theorem D193_5 {g : im_g} : im_D g 193 5 (.aload_n 0) 6 := im_D.of (by decide +kernel)
theorem D193_6 {g : im_g} : im_D g 193 6 (.getfield 15) 9 := im_D.of (by decide +kernel)
theorem D193_9 {g : im_g} : im_D g 193 9 (.iload_n 1) 10 := im_D.of (by decide +kernel)
theorem D193_10 {g : im_g} : im_D g 193 10 (.iaload) 11 := im_D.of (by decide +kernel)
theorem D193_11 {g : im_g} : im_D g 193 11 (.if_icmp .ge 97) 14 := im_D.of (by decide +kernel)
theorem D193_14 {g : im_g} : im_D g 193 14 (.aload_n 0) 15 := im_D.of (by decide +kernel)
theorem D193_15 {g : im_g} : im_D g 193 15 (.iload_n 3) 16 := im_D.of (by decide +kernel)
theorem D193_16 {g : im_g} : im_D g 193 16 (.invokevirtual 97) 19 := im_D.of (by decide +kernel)
theorem D193_19 {g : im_g} : im_D g 193 19 (.istore 4) 21 := im_D.of (by decide +kernel)
theorem D193_21 {g : im_g} : im_D g 193 21 (.iload_n 1) 22 := im_D.of (by decide +kernel)
theorem D193_22 {g : im_g} : im_D g 193 22 (.istore 5) 24 := im_D.of (by decide +kernel)
theorem D193_24 {g : im_g} : im_D g 193 24 (.iload 5) 26 := im_D.of (by decide +kernel)
theorem D193_26 {g : im_g} : im_D g 193 26 (.iload_n 3) 27 := im_D.of (by decide +kernel)
theorem D193_27 {g : im_g} : im_D g 193 27 (.if_icmp .ge 62) 30 := im_D.of (by decide +kernel)
theorem D193_30 {g : im_g} : im_D g 193 30 (.iload 4) 32 := im_D.of (by decide +kernel)
theorem D193_32 {g : im_g} : im_D g 193 32 (.ifCond .eq 57) 35 := im_D.of (by decide +kernel)
theorem D193_35 {g : im_g} : im_D g 193 35 (.aload_n 0) 36 := im_D.of (by decide +kernel)
theorem D193_36 {g : im_g} : im_D g 193 36 (.iload 5) 38 := im_D.of (by decide +kernel)
theorem D193_38 {g : im_g} : im_D g 193 38 (.invokevirtual 97) 41 := im_D.of (by decide +kernel)
theorem D193_41 {g : im_g} : im_D g 193 41 (.ifCond .eq 35) 44 := im_D.of (by decide +kernel)
theorem D193_44 {g : im_g} : im_D g 193 44 (.aload_n 0) 45 := im_D.of (by decide +kernel)
theorem D193_45 {g : im_g} : im_D g 193 45 (.iload 5) 47 := im_D.of (by decide +kernel)
theorem D193_47 {g : im_g} : im_D g 193 47 (.invokevirtual 100) 50 := im_D.of (by decide +kernel)
theorem D193_50 {g : im_g} : im_D g 193 50 (.aload_n 0) 51 := im_D.of (by decide +kernel)
theorem D193_51 {g : im_g} : im_D g 193 51 (.iload_n 3) 52 := im_D.of (by decide +kernel)
theorem D193_52 {g : im_g} : im_D g 193 52 (.invokevirtual 100) 55 := im_D.of (by decide +kernel)
theorem D193_55 {g : im_g} : im_D g 193 55 (.lcmp) 56 := im_D.of (by decide +kernel)
theorem D193_56 {g : im_g} : im_D g 193 56 (.ifCond .ne 20) 59 := im_D.of (by decide +kernel)
theorem D193_59 {g : im_g} : im_D g 193 59 (.aload_n 0) 60 := im_D.of (by decide +kernel)
theorem D193_60 {g : im_g} : im_D g 193 60 (.getfield 34) 63 := im_D.of (by decide +kernel)
theorem D193_63 {g : im_g} : im_D g 193 63 (.iload 5) 65 := im_D.of (by decide +kernel)
theorem D193_65 {g : im_g} : im_D g 193 65 (.laload) 66 := im_D.of (by decide +kernel)
theorem D193_66 {g : im_g} : im_D g 193 66 (.aload_n 0) 67 := im_D.of (by decide +kernel)
theorem D193_67 {g : im_g} : im_D g 193 67 (.getfield 34) 70 := im_D.of (by decide +kernel)
theorem D193_70 {g : im_g} : im_D g 193 70 (.iload_n 3) 71 := im_D.of (by decide +kernel)
theorem D193_71 {g : im_g} : im_D g 193 71 (.laload) 72 := im_D.of (by decide +kernel)
theorem D193_72 {g : im_g} : im_D g 193 72 (.lcmp) 73 := im_D.of (by decide +kernel)
theorem D193_73 {g : im_g} : im_D g 193 73 (.ifCond .eq 7) 76 := im_D.of (by decide +kernel)
theorem D193_76 {g : im_g} : im_D g 193 76 (.iconst 1) 77 := im_D.of (by decide +kernel)
theorem D193_77 {g : im_g} : im_D g 193 77 (.goto 4) 80 := im_D.of (by decide +kernel)
theorem D193_80 {g : im_g} : im_D g 193 80 (.iconst 0) 81 := im_D.of (by decide +kernel)
theorem D193_81 {g : im_g} : im_D g 193 81 (.istore 4) 83 := im_D.of (by decide +kernel)
theorem D193_83 {g : im_g} : im_D g 193 83 (.iinc 5 1) 86 := im_D.of (by decide +kernel)
theorem D193_86 {g : im_g} : im_D g 193 86 (.goto (-62)) 89 := im_D.of (by decide +kernel)
theorem D193_89 {g : im_g} : im_D g 193 89 (.iload_n 2) 90 := im_D.of (by decide +kernel)
theorem D193_90 {g : im_g} : im_D g 193 90 (.iload 4) 92 := im_D.of (by decide +kernel)
theorem D193_92 {g : im_g} : im_D g 193 92 (.ifCond .eq 7) 95 := im_D.of (by decide +kernel)
theorem D193_95 {g : im_g} : im_D g 193 95 (.iconst 1) 96 := im_D.of (by decide +kernel)
theorem D193_96 {g : im_g} : im_D g 193 96 (.goto 4) 99 := im_D.of (by decide +kernel)
theorem D193_99 {g : im_g} : im_D g 193 99 (.iconst 0) 100 := im_D.of (by decide +kernel)
theorem D193_100 {g : im_g} : im_D g 193 100 (.iadd) 101 := im_D.of (by decide +kernel)
theorem D193_101 {g : im_g} : im_D g 193 101 (.istore_n 2) 102 := im_D.of (by decide +kernel)
theorem D193_102 {g : im_g} : im_D g 193 102 (.iinc 3 1) 105 := im_D.of (by decide +kernel)
theorem D193_105 {g : im_g} : im_D g 193 105 (.goto (-101)) 108 := im_D.of (by decide +kernel)
theorem D193_108 {g : im_g} : im_D g 193 108 (.iload_n 2) 109 := im_D.of (by decide +kernel)
theorem D193_109 {g : im_g} : im_D g 193 109 (.ireturn) 110 := im_D.of (by decide +kernel)
theorem D194_0 {g : im_g} : im_D g 194 0 (.aload_n 0) 1 := im_D.of (by decide +kernel)
theorem D194_1 {g : im_g} : im_D g 194 1 (.getfield 9) 4 := im_D.of (by decide +kernel)
theorem D194_4 {g : im_g} : im_D g 194 4 (.iload_n 1) 5 := im_D.of (by decide +kernel)
theorem D194_5 {g : im_g} : im_D g 194 5 (.iaload) 6 := im_D.of (by decide +kernel)
theorem D194_6 {g : im_g} : im_D g 194 6 (.bipush 28) 8 := im_D.of (by decide +kernel)
theorem D194_8 {g : im_g} : im_D g 194 8 (.if_icmp .eq 23) 11 := im_D.of (by decide +kernel)
theorem D194_11 {g : im_g} : im_D g 194 11 (.aload_n 0) 12 := im_D.of (by decide +kernel)
theorem D194_12 {g : im_g} : im_D g 194 12 (.getfield 9) 15 := im_D.of (by decide +kernel)
theorem D194_15 {g : im_g} : im_D g 194 15 (.iload_n 1) 16 := im_D.of (by decide +kernel)
theorem D194_16 {g : im_g} : im_D g 194 16 (.iaload) 17 := im_D.of (by decide +kernel)
theorem D194_17 {g : im_g} : im_D g 194 17 (.iconst 1) 18 := im_D.of (by decide +kernel)
theorem D194_18 {g : im_g} : im_D g 194 18 (.if_icmp .ne 17) 21 := im_D.of (by decide +kernel)
theorem D194_21 {g : im_g} : im_D g 194 21 (.aload_n 0) 22 := im_D.of (by decide +kernel)
theorem D194_22 {g : im_g} : im_D g 194 22 (.getfield 24) 25 := im_D.of (by decide +kernel)
theorem D194_25 {g : im_g} : im_D g 194 25 (.iload_n 1) 26 := im_D.of (by decide +kernel)
theorem D194_26 {g : im_g} : im_D g 194 26 (.iaload) 27 := im_D.of (by decide +kernel)
theorem D194_27 {g : im_g} : im_D g 194 27 (.iconst 1) 28 := im_D.of (by decide +kernel)
theorem D194_28 {g : im_g} : im_D g 194 28 (.if_icmp .ne 7) 31 := im_D.of (by decide +kernel)
theorem D194_31 {g : im_g} : im_D g 194 31 (.iconst 1) 32 := im_D.of (by decide +kernel)
theorem D194_32 {g : im_g} : im_D g 194 32 (.goto 4) 35 := im_D.of (by decide +kernel)
theorem D194_35 {g : im_g} : im_D g 194 35 (.iconst 0) 36 := im_D.of (by decide +kernel)
theorem D194_36 {g : im_g} : im_D g 194 36 (.ireturn) 37 := im_D.of (by decide +kernel)
theorem D195_0 {g : im_g} : im_D g 195 0 (.aload_n 0) 1 := im_D.of (by decide +kernel)
theorem D195_1 {g : im_g} : im_D g 195 1 (.getfield 9) 4 := im_D.of (by decide +kernel)
theorem D195_4 {g : im_g} : im_D g 195 4 (.iload_n 1) 5 := im_D.of (by decide +kernel)
theorem D195_5 {g : im_g} : im_D g 195 5 (.iaload) 6 := im_D.of (by decide +kernel)
theorem D195_6 {g : im_g} : im_D g 195 6 (.bipush 28) 8 := im_D.of (by decide +kernel)
theorem D195_8 {g : im_g} : im_D g 195 8 (.if_icmp .ne 12) 11 := im_D.of (by decide +kernel)
theorem D195_11 {g : im_g} : im_D g 195 11 (.aload_n 0) 12 := im_D.of (by decide +kernel)
theorem D195_12 {g : im_g} : im_D g 195 12 (.getfield 27) 15 := im_D.of (by decide +kernel)
theorem D195_15 {g : im_g} : im_D g 195 15 (.iload_n 1) 16 := im_D.of (by decide +kernel)
theorem D195_16 {g : im_g} : im_D g 195 16 (.laload) 17 := im_D.of (by decide +kernel)
theorem D195_17 {g : im_g} : im_D g 195 17 (.goto 9) 20 := im_D.of (by decide +kernel)
theorem D195_20 {g : im_g} : im_D g 195 20 (.aload_n 0) 21 := im_D.of (by decide +kernel)
theorem D195_21 {g : im_g} : im_D g 195 21 (.getfield 31) 24 := im_D.of (by decide +kernel)
theorem D195_24 {g : im_g} : im_D g 195 24 (.iload_n 1) 25 := im_D.of (by decide +kernel)
theorem D195_25 {g : im_g} : im_D g 195 25 (.laload) 26 := im_D.of (by decide +kernel)
theorem D195_26 {g : im_g} : im_D g 195 26 (.lreturn) 27 := im_D.of (by decide +kernel)
theorem D197_0 {g : im_g} : im_D g 197 0 (.aload_n 0) 1 := im_D.of (by decide +kernel)
theorem D197_1 {g : im_g} : im_D g 197 1 (.aload_n 0) 2 := im_D.of (by decide +kernel)
theorem D197_2 {g : im_g} : im_D g 197 2 (.lload_n 1) 3 := im_D.of (by decide +kernel)
theorem D197_3 {g : im_g} : im_D g 197 3 (.aload_n 0) 4 := im_D.of (by decide +kernel)
theorem D197_4 {g : im_g} : im_D g 197 4 (.invokevirtual 161) 7 := im_D.of (by decide +kernel)
theorem D197_7 {g : im_g} : im_D g 197 7 (.invokevirtual 235) 10 := im_D.of (by decide +kernel)
theorem D197_10 {g : im_g} : im_D g 197 10 (.invokevirtual 169) 13 := im_D.of (by decide +kernel)
theorem D197_13 {g : im_g} : im_D g 197 13 (.ireturn) 14 := im_D.of (by decide +kernel)
theorem D199_0 {g : im_g} : im_D g 199 0 (.aload_n 0) 1 := im_D.of (by decide +kernel)
theorem D199_1 {g : im_g} : im_D g 199 1 (.invokevirtual 124) 4 := im_D.of (by decide +kernel)
theorem D199_4 {g : im_g} : im_D g 199 4 (.aload_n 0) 5 := im_D.of (by decide +kernel)
theorem D199_5 {g : im_g} : im_D g 199 5 (.aload_n 0) 6 := im_D.of (by decide +kernel)
theorem D199_6 {g : im_g} : im_D g 199 6 (.invokevirtual 238) 9 := im_D.of (by decide +kernel)
theorem D199_9 {g : im_g} : im_D g 199 9 (.invokevirtual 169) 12 := im_D.of (by decide +kernel)
theorem D199_12 {g : im_g} : im_D g 199 12 (.ireturn) 13 := im_D.of (by decide +kernel)
theorem D201_0 {g : im_g} : im_D g 201 0 (.aload_n 0) 1 := im_D.of (by decide +kernel)
theorem D201_1 {g : im_g} : im_D g 201 1 (.invokevirtual 124) 4 := im_D.of (by decide +kernel)
theorem D201_4 {g : im_g} : im_D g 201 4 (.aload_n 0) 5 := im_D.of (by decide +kernel)
theorem D201_5 {g : im_g} : im_D g 201 5 (.aload_n 0) 6 := im_D.of (by decide +kernel)
theorem D201_6 {g : im_g} : im_D g 201 6 (.iload_n 1) 7 := im_D.of (by decide +kernel)
theorem D201_7 {g : im_g} : im_D g 201 7 (.i2l) 8 := im_D.of (by decide +kernel)
theorem D201_8 {g : im_g} : im_D g 201 8 (.iload_n 2) 9 := im_D.of (by decide +kernel)
theorem D201_9 {g : im_g} : im_D g 201 9 (.i2l) 10 := im_D.of (by decide +kernel)
theorem D201_10 {g : im_g} : im_D g 201 10 (.lload_n 3) 11 := im_D.of (by decide +kernel)
theorem D201_11 {g : im_g} : im_D g 201 11 (.invokevirtual 241) 14 := im_D.of (by decide +kernel)
theorem D201_14 {g : im_g} : im_D g 201 14 (.invokevirtual 169) 17 := im_D.of (by decide +kernel)
theorem D201_17 {g : im_g} : im_D g 201 17 (.ireturn) 18 := im_D.of (by decide +kernel)
theorem D203_0 {g : im_g} : im_D g 203 0 (.aload_n 0) 1 := im_D.of (by decide +kernel)
theorem D203_1 {g : im_g} : im_D g 203 1 (.invokevirtual 124) 4 := im_D.of (by decide +kernel)
theorem D203_4 {g : im_g} : im_D g 203 4 (.aload_n 0) 5 := im_D.of (by decide +kernel)
theorem D203_5 {g : im_g} : im_D g 203 5 (.aload_n 0) 6 := im_D.of (by decide +kernel)
theorem D203_6 {g : im_g} : im_D g 203 6 (.iload_n 1) 7 := im_D.of (by decide +kernel)
theorem D203_7 {g : im_g} : im_D g 203 7 (.i2l) 8 := im_D.of (by decide +kernel)
theorem D203_8 {g : im_g} : im_D g 203 8 (.invokevirtual 245) 11 := im_D.of (by decide +kernel)
theorem D203_11 {g : im_g} : im_D g 203 11 (.invokevirtual 169) 14 := im_D.of (by decide +kernel)
theorem D203_14 {g : im_g} : im_D g 203 14 (.ireturn) 15 := im_D.of (by decide +kernel)
theorem D205_0 {g : im_g} : im_D g 205 0 (.aload_n 0) 1 := im_D.of (by decide +kernel)
theorem D205_1 {g : im_g} : im_D g 205 1 (.aload_n 0) 2 := im_D.of (by decide +kernel)
theorem D205_2 {g : im_g} : im_D g 205 2 (.iload_n 1) 3 := im_D.of (by decide +kernel)
theorem D205_3 {g : im_g} : im_D g 205 3 (.i2l) 4 := im_D.of (by decide +kernel)
theorem D205_4 {g : im_g} : im_D g 205 4 (.lload_n 2) 5 := im_D.of (by decide +kernel)
theorem D205_5 {g : im_g} : im_D g 205 5 (.lload 4) 7 := im_D.of (by decide +kernel)
theorem D205_7 {g : im_g} : im_D g 205 7 (.aload_n 0) 8 := im_D.of (by decide +kernel)
theorem D205_8 {g : im_g} : im_D g 205 8 (.invokevirtual 161) 11 := im_D.of (by decide +kernel)
theorem D205_11 {g : im_g} : im_D g 205 11 (.invokevirtual 248) 14 := im_D.of (by decide +kernel)
theorem D205_14 {g : im_g} : im_D g 205 14 (.invokevirtual 169) 17 := im_D.of (by decide +kernel)
theorem D205_17 {g : im_g} : im_D g 205 17 (.ireturn) 18 := im_D.of (by decide +kernel)
theorem D207_0 {g : im_g} : im_D g 207 0 (.aload_n 0) 1 := im_D.of (by decide +kernel)
theorem D207_1 {g : im_g} : im_D g 207 1 (.iload_n 1) 2 := im_D.of (by decide +kernel)
theorem D207_2 {g : im_g} : im_D g 207 2 (.invokevirtual 252) 5 := im_D.of (by decide +kernel)
theorem D207_5 {g : im_g} : im_D g 207 5 (.astore_n 2) 6 := im_D.of (by decide +kernel)
theorem D207_6 {g : im_g} : im_D g 207 6 (.aload_n 0) 7 := im_D.of (by decide +kernel)
theorem D207_7 {g : im_g} : im_D g 207 7 (.getfield 29) 10 := im_D.of (by decide +kernel)
theorem D207_10 {g : im_g} : im_D g 207 10 (.invokevirtual 155) 13 := im_D.of (by decide +kernel)
theorem D207_13 {g : im_g} : im_D g 207 13 (.aload_n 0) 14 := im_D.of (by decide +kernel)
theorem D207_14 {g : im_g} : im_D g 207 14 (.getfield 29) 17 := im_D.of (by decide +kernel)
theorem D207_17 {g : im_g} : im_D g 207 17 (.aload_n 0) 18 := im_D.of (by decide +kernel)
theorem D207_18 {g : im_g} : im_D g 207 18 (.getfield 36) 21 := im_D.of (by decide +kernel)
theorem D207_21 {g : im_g} : im_D g 207 21 (.aload_n 2) 22 := im_D.of (by decide +kernel)
theorem D207_22 {g : im_g} : im_D g 207 22 (.getfield 256) 25 := im_D.of (by decide +kernel)
theorem D207_25 {g : im_g} : im_D g 207 25 (.invokevirtual 191) 28 := im_D.of (by decide +kernel)
theorem D207_28 {g : im_g} : im_D g 207 28 (.aload_n 0) 29 := im_D.of (by decide +kernel)
theorem D207_29 {g : im_g} : im_D g 207 29 (.getfield 29) 32 := im_D.of (by decide +kernel)
theorem D207_32 {g : im_g} : im_D g 207 32 (.getfield 149) 35 := im_D.of (by decide +kernel)
theorem D207_35 {g : im_g} : im_D g 207 35 (.ireturn) 36 := im_D.of (by decide +kernel)
theorem D208_0 {g : im_g} : im_D g 208 0 (.aload_n 0) 1 := im_D.of (by decide +kernel)
theorem D208_1 {g : im_g} : im_D g 208 1 (.invokevirtual 124) 4 := im_D.of (by decide +kernel)
theorem D208_4 {g : im_g} : im_D g 208 4 (.iload_n 1) 5 := im_D.of (by decide +kernel)
theorem D208_5 {g : im_g} : im_D g 208 5 (.bipush 16) 7 := im_D.of (by decide +kernel)
theorem D208_7 {g : im_g} : im_D g 208 7 (.invokestatic 183) 10 := im_D.of (by decide +kernel)
theorem D208_10 {g : im_g} : im_D g 208 10 (.aload_n 0) 11 := im_D.of (by decide +kernel)
theorem D208_11 {g : im_g} : im_D g 208 11 (.getfield 55) 14 := im_D.of (by decide +kernel)
theorem D208_14 {g : im_g} : im_D g 208 14 (.iload_n 1) 15 := im_D.of (by decide +kernel)
theorem D208_15 {g : im_g} : im_D g 208 15 (.aaload) 16 := im_D.of (by decide +kernel)
theorem D208_16 {g : im_g} : im_D g 208 16 (.getfield 290) 19 := im_D.of (by decide +kernel)
theorem D208_19 {g : im_g} : im_D g 208 19 (.invokestatic 187) 22 := im_D.of (by decide +kernel)
theorem D208_22 {g : im_g} : im_D g 208 22 (.aload_n 0) 23 := im_D.of (by decide +kernel)
theorem D208_23 {g : im_g} : im_D g 208 23 (.getfield 55) 26 := im_D.of (by decide +kernel)
theorem D208_26 {g : im_g} : im_D g 208 26 (.iload_n 1) 27 := im_D.of (by decide +kernel)
theorem D208_27 {g : im_g} : im_D g 208 27 (.aaload) 28 := im_D.of (by decide +kernel)
theorem D208_28 {g : im_g} : im_D g 208 28 (.areturn) 29 := im_D.of (by decide +kernel)
theorem D210_0 {g : im_g} : im_D g 210 0 (.aload_n 0) 1 := im_D.of (by decide +kernel)
theorem D210_1 {g : im_g} : im_D g 210 1 (.invokevirtual 124) 4 := im_D.of (by decide +kernel)
theorem D210_4 {g : im_g} : im_D g 210 4 (.iload_n 1) 5 := im_D.of (by decide +kernel)
theorem D210_5 {g : im_g} : im_D g 210 5 (.bipush 16) 7 := im_D.of (by decide +kernel)
theorem D210_7 {g : im_g} : im_D g 210 7 (.invokestatic 183) 10 := im_D.of (by decide +kernel)
theorem D210_10 {g : im_g} : im_D g 210 10 (.iload_n 2) 11 := im_D.of (by decide +kernel)
theorem D210_11 {g : im_g} : im_D g 210 11 (.ifCond .lt 12) 14 := im_D.of (by decide +kernel)
theorem D210_14 {g : im_g} : im_D g 210 14 (.iload_n 2) 15 := im_D.of (by decide +kernel)
theorem D210_15 {g : im_g} : im_D g 210 15 (.iconst 5) 16 := im_D.of (by decide +kernel)
theorem D210_16 {g : im_g} : im_D g 210 16 (.if_icmp .gt 7) 19 := im_D.of (by decide +kernel)
theorem D210_19 {g : im_g} : im_D g 210 19 (.iconst 1) 20 := im_D.of (by decide +kernel)
theorem D210_20 {g : im_g} : im_D g 210 20 (.goto 4) 23 := im_D.of (by decide +kernel)
theorem D210_23 {g : im_g} : im_D g 210 23 (.iconst 0) 24 := im_D.of (by decide +kernel)
theorem D210_24 {g : im_g} : im_D g 210 24 (.invokestatic 195) 27 := im_D.of (by decide +kernel)
theorem D210_27 {g : im_g} : im_D g 210 27 (.aload_n 0) 28 := im_D.of (by decide +kernel)
theorem D210_28 {g : im_g} : im_D g 210 28 (.iload_n 1) 29 := im_D.of (by decide +kernel)
theorem D210_29 {g : im_g} : im_D g 210 29 (.invokevirtual 252) 32 := im_D.of (by decide +kernel)
theorem D210_32 {g : im_g} : im_D g 210 32 (.astore_n 3) 33 := im_D.of (by decide +kernel)
theorem D210_33 {g : im_g} : im_D g 210 33 (.iload_n 2) 34 := im_D.of (by decide +kernel)
theorem D210_34 {g : im_g} : im_D g 210 34 (.lookupswitch 45 #[(0, 26), (5, 31)]) 35 := im_D.of (by decide +kernel)
theorem D210_60 {g : im_g} : im_D g 210 60 (.aload_n 3) 61 := im_D.of (by decide +kernel)
theorem D210_61 {g : im_g} : im_D g 210 61 (.getfield 259) 64 := im_D.of (by decide +kernel)
theorem D210_64 {g : im_g} : im_D g 210 64 (.lreturn) 65 := im_D.of (by decide +kernel)
theorem D210_65 {g : im_g} : im_D g 210 65 (.aload_n 0) 66 := im_D.of (by decide +kernel)
theorem D210_66 {g : im_g} : im_D g 210 66 (.aload_n 3) 67 := im_D.of (by decide +kernel)
theorem D210_67 {g : im_g} : im_D g 210 67 (.invokevirtual 263) 70 := im_D.of (by decide +kernel)
theorem D210_70 {g : im_g} : im_D g 210 70 (.ifCond .eq 7) 73 := im_D.of (by decide +kernel)
theorem D210_73 {g : im_g} : im_D g 210 73 (.lconst 1) 74 := im_D.of (by decide +kernel)
theorem D210_74 {g : im_g} : im_D g 210 74 (.goto 4) 77 := im_D.of (by decide +kernel)
theorem D210_77 {g : im_g} : im_D g 210 77 (.lconst 0) 78 := im_D.of (by decide +kernel)
theorem D210_78 {g : im_g} : im_D g 210 78 (.lreturn) 79 := im_D.of (by decide +kernel)
theorem D210_79 {g : im_g} : im_D g 210 79 (.aload_n 3) 80 := im_D.of (by decide +kernel)
theorem D210_80 {g : im_g} : im_D g 210 80 (.iload_n 2) 81 := im_D.of (by decide +kernel)
theorem D210_81 {g : im_g} : im_D g 210 81 (.invokevirtual 267) 84 := im_D.of (by decide +kernel)
theorem D210_84 {g : im_g} : im_D g 210 84 (.getfield 271) 87 := im_D.of (by decide +kernel)
theorem D210_87 {g : im_g} : im_D g 210 87 (.i2l) 88 := im_D.of (by decide +kernel)
theorem D210_88 {g : im_g} : im_D g 210 88 (.lreturn) 89 := im_D.of (by decide +kernel)
theorem D211_0 {g : im_g} : im_D g 211 0 (.iload_n 1) 1 := im_D.of (by decide +kernel)
theorem D211_1 {g : im_g} : im_D g 211 1 (.tableswitch 42 1 3 #[27, 32, 37]) 2 := im_D.of (by decide +kernel)
theorem D211_28 {g : im_g} : im_D g 211 28 (.aload_n 0) 29 := im_D.of (by decide +kernel)
theorem D211_29 {g : im_g} : im_D g 211 29 (.getfield 14) 32 := im_D.of (by decide +kernel)
theorem D211_32 {g : im_g} : im_D g 211 32 (.areturn) 33 := im_D.of (by decide +kernel)
theorem D211_33 {g : im_g} : im_D g 211 33 (.aload_n 0) 34 := im_D.of (by decide +kernel)
theorem D211_34 {g : im_g} : im_D g 211 34 (.getfield 20) 37 := im_D.of (by decide +kernel)
theorem D211_37 {g : im_g} : im_D g 211 37 (.areturn) 38 := im_D.of (by decide +kernel)
theorem D211_38 {g : im_g} : im_D g 211 38 (.aload_n 0) 39 := im_D.of (by decide +kernel)
theorem D211_39 {g : im_g} : im_D g 211 39 (.getfield 23) 42 := im_D.of (by decide +kernel)
theorem D211_42 {g : im_g} : im_D g 211 42 (.areturn) 43 := im_D.of (by decide +kernel)
theorem D211_43 {g : im_g} : im_D g 211 43 (.aload_n 0) 44 := im_D.of (by decide +kernel)
theorem D211_44 {g : im_g} : im_D g 211 44 (.getfield 26) 47 := im_D.of (by decide +kernel)
theorem D211_47 {g : im_g} : im_D g 211 47 (.areturn) 48 := im_D.of (by decide +kernel)
theorem D213_0 {g : im_g} : im_D g 213 0 (.aload_n 0) 1 := im_D.of (by decide +kernel)
theorem D213_1 {g : im_g} : im_D g 213 1 (.iload_n 1) 2 := im_D.of (by decide +kernel)
theorem D213_2 {g : im_g} : im_D g 213 2 (.iload_n 2) 3 := im_D.of (by decide +kernel)
theorem D213_3 {g : im_g} : im_D g 213 3 (.iload_n 3) 4 := im_D.of (by decide +kernel)
theorem D213_4 {g : im_g} : im_D g 213 4 (.invokevirtual 272) 7 := im_D.of (by decide +kernel)
theorem D213_7 {g : im_g} : im_D g 213 7 (.astore 4) 9 := im_D.of (by decide +kernel)
theorem D213_9 {g : im_g} : im_D g 213 9 (.aload_n 0) 10 := im_D.of (by decide +kernel)
theorem D213_10 {g : im_g} : im_D g 213 10 (.aload 4) 12 := im_D.of (by decide +kernel)
theorem D213_12 {g : im_g} : im_D g 213 12 (.getfield 276) 15 := im_D.of (by decide +kernel)
theorem D213_15 {g : im_g} : im_D g 213 15 (.iload_n 3) 16 := im_D.of (by decide +kernel)
theorem D213_16 {g : im_g} : im_D g 213 16 (.aaload) 17 := im_D.of (by decide +kernel)
theorem D213_17 {g : im_g} : im_D g 213 17 (.invokevirtual 280) 20 := im_D.of (by decide +kernel)
theorem D213_20 {g : im_g} : im_D g 213 20 (.ireturn) 21 := im_D.of (by decide +kernel)
theorem D214_0 {g : im_g} : im_D g 214 0 (.aload_n 0) 1 := im_D.of (by decide +kernel)
theorem D214_1 {g : im_g} : im_D g 214 1 (.invokevirtual 124) 4 := im_D.of (by decide +kernel)
theorem D214_4 {g : im_g} : im_D g 214 4 (.iload_n 1) 5 := im_D.of (by decide +kernel)
theorem D214_5 {g : im_g} : im_D g 214 5 (.bipush 16) 7 := im_D.of (by decide +kernel)
theorem D214_7 {g : im_g} : im_D g 214 7 (.invokestatic 183) 10 := im_D.of (by decide +kernel)
theorem D214_10 {g : im_g} : im_D g 214 10 (.iload_n 2) 11 := im_D.of (by decide +kernel)
theorem D214_11 {g : im_g} : im_D g 214 11 (.iconst 1) 12 := im_D.of (by decide +kernel)
theorem D214_12 {g : im_g} : im_D g 214 12 (.if_icmp .lt 12) 15 := im_D.of (by decide +kernel)
theorem D214_15 {g : im_g} : im_D g 214 15 (.iload_n 2) 16 := im_D.of (by decide +kernel)
theorem D214_16 {g : im_g} : im_D g 214 16 (.iconst 4) 17 := im_D.of (by decide +kernel)
theorem D214_17 {g : im_g} : im_D g 214 17 (.if_icmp .gt 7) 20 := im_D.of (by decide +kernel)
theorem D214_20 {g : im_g} : im_D g 214 20 (.iconst 1) 21 := im_D.of (by decide +kernel)
theorem D214_21 {g : im_g} : im_D g 214 21 (.goto 4) 24 := im_D.of (by decide +kernel)
theorem D214_24 {g : im_g} : im_D g 214 24 (.iconst 0) 25 := im_D.of (by decide +kernel)
theorem D214_25 {g : im_g} : im_D g 214 25 (.invokestatic 195) 28 := im_D.of (by decide +kernel)
theorem D214_28 {g : im_g} : im_D g 214 28 (.aload_n 0) 29 := im_D.of (by decide +kernel)
theorem D214_29 {g : im_g} : im_D g 214 29 (.iload_n 1) 30 := im_D.of (by decide +kernel)
theorem D214_30 {g : im_g} : im_D g 214 30 (.invokevirtual 252) 33 := im_D.of (by decide +kernel)
theorem D214_33 {g : im_g} : im_D g 214 33 (.iload_n 2) 34 := im_D.of (by decide +kernel)
theorem D214_34 {g : im_g} : im_D g 214 34 (.invokevirtual 267) 37 := im_D.of (by decide +kernel)
theorem D214_37 {g : im_g} : im_D g 214 37 (.astore 4) 39 := im_D.of (by decide +kernel)
theorem D214_39 {g : im_g} : im_D g 214 39 (.iload_n 3) 40 := im_D.of (by decide +kernel)
theorem D214_40 {g : im_g} : im_D g 214 40 (.aload 4) 42 := im_D.of (by decide +kernel)
theorem D214_42 {g : im_g} : im_D g 214 42 (.getfield 271) 45 := im_D.of (by decide +kernel)
theorem D214_45 {g : im_g} : im_D g 214 45 (.invokestatic 183) 48 := im_D.of (by decide +kernel)
theorem D214_48 {g : im_g} : im_D g 214 48 (.aload 4) 50 := im_D.of (by decide +kernel)
theorem D214_50 {g : im_g} : im_D g 214 50 (.areturn) 51 := im_D.of (by decide +kernel)
theorem D215_0 {g : im_g} : im_D g 215 0 (.aload_n 0) 1 := im_D.of (by decide +kernel)
theorem D215_1 {g : im_g} : im_D g 215 1 (.getfield 29) 4 := im_D.of (by decide +kernel)
theorem D215_4 {g : im_g} : im_D g 215 4 (.invokevirtual 155) 7 := im_D.of (by decide +kernel)
theorem D215_7 {g : im_g} : im_D g 215 7 (.aload_n 0) 8 := im_D.of (by decide +kernel)
theorem D215_8 {g : im_g} : im_D g 215 8 (.getfield 29) 11 := im_D.of (by decide +kernel)
theorem D215_11 {g : im_g} : im_D g 215 11 (.aload_n 1) 12 := im_D.of (by decide +kernel)
theorem D215_12 {g : im_g} : im_D g 215 12 (.invokevirtual 461) 15 := im_D.of (by decide +kernel)
theorem D215_15 {g : im_g} : im_D g 215 15 (.aload_n 0) 16 := im_D.of (by decide +kernel)
theorem D215_16 {g : im_g} : im_D g 215 16 (.getfield 29) 19 := im_D.of (by decide +kernel)
theorem D215_19 {g : im_g} : im_D g 215 19 (.getfield 149) 22 := im_D.of (by decide +kernel)
theorem D215_22 {g : im_g} : im_D g 215 22 (.ireturn) 23 := im_D.of (by decide +kernel)
theorem D217_0 {g : im_g} : im_D g 217 0 (.aload_n 0) 1 := im_D.of (by decide +kernel)
theorem D217_1 {g : im_g} : im_D g 217 1 (.iload_n 1) 2 := im_D.of (by decide +kernel)
theorem D217_2 {g : im_g} : im_D g 217 2 (.iload_n 2) 3 := im_D.of (by decide +kernel)
theorem D217_3 {g : im_g} : im_D g 217 3 (.iload_n 3) 4 := im_D.of (by decide +kernel)
theorem D217_4 {g : im_g} : im_D g 217 4 (.invokevirtual 272) 7 := im_D.of (by decide +kernel)
theorem D217_7 {g : im_g} : im_D g 217 7 (.astore 5) 9 := im_D.of (by decide +kernel)
theorem D217_9 {g : im_g} : im_D g 217 9 (.iload 4) 11 := im_D.of (by decide +kernel)
theorem D217_11 {g : im_g} : im_D g 217 11 (.ifCond .eq 13) 14 := im_D.of (by decide +kernel)
theorem D217_14 {g : im_g} : im_D g 217 14 (.aload 5) 16 := im_D.of (by decide +kernel)
theorem D217_16 {g : im_g} : im_D g 217 16 (.getfield 284) 19 := im_D.of (by decide +kernel)
theorem D217_19 {g : im_g} : im_D g 217 19 (.iload_n 3) 20 := im_D.of (by decide +kernel)
theorem D217_20 {g : im_g} : im_D g 217 20 (.laload) 21 := im_D.of (by decide +kernel)
theorem D217_21 {g : im_g} : im_D g 217 21 (.goto 10) 24 := im_D.of (by decide +kernel)
theorem D217_24 {g : im_g} : im_D g 217 24 (.aload 5) 26 := im_D.of (by decide +kernel)
theorem D217_26 {g : im_g} : im_D g 217 26 (.getfield 287) 29 := im_D.of (by decide +kernel)
theorem D217_29 {g : im_g} : im_D g 217 29 (.iload_n 3) 30 := im_D.of (by decide +kernel)
theorem D217_30 {g : im_g} : im_D g 217 30 (.laload) 31 := im_D.of (by decide +kernel)
theorem D217_31 {g : im_g} : im_D g 217 31 (.lreturn) 32 := im_D.of (by decide +kernel)
theorem D219_0 {g : im_g} : im_D g 219 0 (.aload_n 0) 1 := im_D.of (by decide +kernel)
theorem D219_1 {g : im_g} : im_D g 219 1 (.invokevirtual 124) 4 := im_D.of (by decide +kernel)
theorem D219_4 {g : im_g} : im_D g 219 4 (.iload_n 1) 5 := im_D.of (by decide +kernel)
theorem D219_5 {g : im_g} : im_D g 219 5 (.ifCond .eq 8) 8 := im_D.of (by decide +kernel)
theorem D219_8 {g : im_g} : im_D g 219 8 (.iload_n 1) 9 := im_D.of (by decide +kernel)
theorem D219_9 {g : im_g} : im_D g 219 9 (.iconst 1) 10 := im_D.of (by decide +kernel)
theorem D219_10 {g : im_g} : im_D g 219 10 (.if_icmp .ne 7) 13 := im_D.of (by decide +kernel)
theorem D219_13 {g : im_g} : im_D g 219 13 (.iconst 1) 14 := im_D.of (by decide +kernel)
theorem D219_14 {g : im_g} : im_D g 219 14 (.goto 4) 17 := im_D.of (by decide +kernel)
theorem D219_17 {g : im_g} : im_D g 219 17 (.iconst 0) 18 := im_D.of (by decide +kernel)
theorem D219_18 {g : im_g} : im_D g 219 18 (.invokestatic 195) 21 := im_D.of (by decide +kernel)
theorem D219_21 {g : im_g} : im_D g 219 21 (.iload_n 1) 22 := im_D.of (by decide +kernel)
theorem D219_22 {g : im_g} : im_D g 219 22 (.ifCond .ne 13) 25 := im_D.of (by decide +kernel)
theorem D219_25 {g : im_g} : im_D g 219 25 (.aload_n 0) 26 := im_D.of (by decide +kernel)
theorem D219_26 {g : im_g} : im_D g 219 26 (.getfield 81) 29 := im_D.of (by decide +kernel)
theorem D219_29 {g : im_g} : im_D g 219 29 (.getfield 347) 32 := im_D.of (by decide +kernel)
theorem D219_32 {g : im_g} : im_D g 219 32 (.goto 10) 35 := im_D.of (by decide +kernel)
theorem D219_35 {g : im_g} : im_D g 219 35 (.aload_n 0) 36 := im_D.of (by decide +kernel)
theorem D219_36 {g : im_g} : im_D g 219 36 (.getfield 84) 39 := im_D.of (by decide +kernel)
theorem D219_39 {g : im_g} : im_D g 219 39 (.getfield 347) 42 := im_D.of (by decide +kernel)
theorem D219_42 {g : im_g} : im_D g 219 42 (.ireturn) 43 := im_D.of (by decide +kernel)
theorem D221_0 {g : im_g} : im_D g 221 0 (.aload_n 0) 1 := im_D.of (by decide +kernel)
theorem D221_1 {g : im_g} : im_D g 221 1 (.aload_n 0) 2 := im_D.of (by decide +kernel)
theorem D221_2 {g : im_g} : im_D g 221 2 (.getfield 81) 5 := im_D.of (by decide +kernel)
theorem D221_5 {g : im_g} : im_D g 221 5 (.iload_n 1) 6 := im_D.of (by decide +kernel)
theorem D221_6 {g : im_g} : im_D g 221 6 (.iload_n 2) 7 := im_D.of (by decide +kernel)
theorem D221_7 {g : im_g} : im_D g 221 7 (.invokevirtual 357) 10 := im_D.of (by decide +kernel)
theorem D221_10 {g : im_g} : im_D g 221 10 (.lreturn) 11 := im_D.of (by decide +kernel)
theorem D222_0 {g : im_g} : im_D g 222 0 (.aload_n 0) 1 := im_D.of (by decide +kernel)
theorem D222_1 {g : im_g} : im_D g 222 1 (.invokevirtual 124) 4 := im_D.of (by decide +kernel)
theorem D222_4 {g : im_g} : im_D g 222 4 (.iload_n 2) 5 := im_D.of (by decide +kernel)
theorem D222_5 {g : im_g} : im_D g 222 5 (.aload_n 1) 6 := im_D.of (by decide +kernel)
theorem D222_6 {g : im_g} : im_D g 222 6 (.getfield 347) 9 := im_D.of (by decide +kernel)
theorem D222_9 {g : im_g} : im_D g 222 9 (.invokestatic 183) 12 := im_D.of (by decide +kernel)
theorem D222_12 {g : im_g} : im_D g 222 12 (.iload_n 3) 13 := im_D.of (by decide +kernel)
theorem D222_13 {g : im_g} : im_D g 222 13 (.ifCond .lt 12) 16 := im_D.of (by decide +kernel)
theorem D222_16 {g : im_g} : im_D g 222 16 (.iload_n 3) 17 := im_D.of (by decide +kernel)
theorem D222_17 {g : im_g} : im_D g 222 17 (.iconst 3) 18 := im_D.of (by decide +kernel)
theorem D222_18 {g : im_g} : im_D g 222 18 (.if_icmp .gt 7) 21 := im_D.of (by decide +kernel)
theorem D222_21 {g : im_g} : im_D g 222 21 (.iconst 1) 22 := im_D.of (by decide +kernel)
theorem D222_22 {g : im_g} : im_D g 222 22 (.goto 4) 25 := im_D.of (by decide +kernel)
theorem D222_25 {g : im_g} : im_D g 222 25 (.iconst 0) 26 := im_D.of (by decide +kernel)
theorem D222_26 {g : im_g} : im_D g 222 26 (.invokestatic 195) 29 := im_D.of (by decide +kernel)
theorem D222_29 {g : im_g} : im_D g 222 29 (.iload_n 3) 30 := im_D.of (by decide +kernel)
theorem D222_30 {g : im_g} : im_D g 222 30 (.tableswitch 48 0 2 #[26, 34, 41]) 31 := im_D.of (by decide +kernel)
theorem D222_56 {g : im_g} : im_D g 222 56 (.aload_n 1) 57 := im_D.of (by decide +kernel)
theorem D222_57 {g : im_g} : im_D g 222 57 (.getfield 361) 60 := im_D.of (by decide +kernel)
theorem D222_60 {g : im_g} : im_D g 222 60 (.iload_n 2) 61 := im_D.of (by decide +kernel)
theorem D222_61 {g : im_g} : im_D g 222 61 (.iaload) 62 := im_D.of (by decide +kernel)
theorem D222_62 {g : im_g} : im_D g 222 62 (.i2l) 63 := im_D.of (by decide +kernel)
theorem D222_63 {g : im_g} : im_D g 222 63 (.lreturn) 64 := im_D.of (by decide +kernel)
theorem D222_64 {g : im_g} : im_D g 222 64 (.aload_n 1) 65 := im_D.of (by decide +kernel)
theorem D222_65 {g : im_g} : im_D g 222 65 (.getfield 363) 68 := im_D.of (by decide +kernel)
theorem D222_68 {g : im_g} : im_D g 222 68 (.iload_n 2) 69 := im_D.of (by decide +kernel)
theorem D222_69 {g : im_g} : im_D g 222 69 (.laload) 70 := im_D.of (by decide +kernel)
theorem D222_70 {g : im_g} : im_D g 222 70 (.lreturn) 71 := im_D.of (by decide +kernel)
theorem D222_71 {g : im_g} : im_D g 222 71 (.aload_n 1) 72 := im_D.of (by decide +kernel)
theorem D222_72 {g : im_g} : im_D g 222 72 (.getfield 364) 75 := im_D.of (by decide +kernel)
theorem D222_75 {g : im_g} : im_D g 222 75 (.iload_n 2) 76 := im_D.of (by decide +kernel)
theorem D222_76 {g : im_g} : im_D g 222 76 (.laload) 77 := im_D.of (by decide +kernel)
theorem D222_77 {g : im_g} : im_D g 222 77 (.lreturn) 78 := im_D.of (by decide +kernel)
theorem D222_78 {g : im_g} : im_D g 222 78 (.aload_n 1) 79 := im_D.of (by decide +kernel)
theorem D222_79 {g : im_g} : im_D g 222 79 (.getfield 365) 82 := im_D.of (by decide +kernel)
theorem D222_82 {g : im_g} : im_D g 222 82 (.iload_n 2) 83 := im_D.of (by decide +kernel)
theorem D222_83 {g : im_g} : im_D g 222 83 (.laload) 84 := im_D.of (by decide +kernel)
theorem D222_84 {g : im_g} : im_D g 222 84 (.lreturn) 85 := im_D.of (by decide +kernel)
theorem D224_0 {g : im_g} : im_D g 224 0 (.aload_n 0) 1 := im_D.of (by decide +kernel)
theorem D224_1 {g : im_g} : im_D g 224 1 (.invokevirtual 124) 4 := im_D.of (by decide +kernel)
theorem D224_4 {g : im_g} : im_D g 224 4 (.iload_n 2) 5 := im_D.of (by decide +kernel)
theorem D224_5 {g : im_g} : im_D g 224 5 (.ifCond .eq 10) 8 := im_D.of (by decide +kernel)
theorem D224_8 {g : im_g} : im_D g 224 8 (.aload_n 0) 9 := im_D.of (by decide +kernel)
theorem D224_9 {g : im_g} : im_D g 224 9 (.getfield 84) 12 := im_D.of (by decide +kernel)
theorem D224_12 {g : im_g} : im_D g 224 12 (.goto 7) 15 := im_D.of (by decide +kernel)
theorem D224_15 {g : im_g} : im_D g 224 15 (.aload_n 0) 16 := im_D.of (by decide +kernel)
theorem D224_16 {g : im_g} : im_D g 224 16 (.getfield 81) 19 := im_D.of (by decide +kernel)
theorem D224_19 {g : im_g} : im_D g 224 19 (.astore_n 3) 20 := im_D.of (by decide +kernel)
theorem D224_20 {g : im_g} : im_D g 224 20 (.iload_n 1) 21 := im_D.of (by decide +kernel)
theorem D224_21 {g : im_g} : im_D g 224 21 (.aload_n 3) 22 := im_D.of (by decide +kernel)
theorem D224_22 {g : im_g} : im_D g 224 22 (.getfield 347) 25 := im_D.of (by decide +kernel)
theorem D224_25 {g : im_g} : im_D g 224 25 (.invokestatic 183) 28 := im_D.of (by decide +kernel)
theorem D224_28 {g : im_g} : im_D g 224 28 (.iload_n 2) 29 := im_D.of (by decide +kernel)
theorem D224_29 {g : im_g} : im_D g 224 29 (.ifCond .eq 22) 32 := im_D.of (by decide +kernel)
theorem D224_32 {g : im_g} : im_D g 224 32 (.aload_n 3) 33 := im_D.of (by decide +kernel)
theorem D224_33 {g : im_g} : im_D g 224 33 (.getfield 361) 36 := im_D.of (by decide +kernel)
theorem D224_36 {g : im_g} : im_D g 224 36 (.iload_n 1) 37 := im_D.of (by decide +kernel)
theorem D224_37 {g : im_g} : im_D g 224 37 (.iaload) 38 := im_D.of (by decide +kernel)
theorem D224_38 {g : im_g} : im_D g 224 38 (.iconst 5) 39 := im_D.of (by decide +kernel)
theorem D224_39 {g : im_g} : im_D g 224 39 (.if_icmp .ne 12) 42 := im_D.of (by decide +kernel)
theorem D224_42 {g : im_g} : im_D g 224 42 (.aload_n 0) 43 := im_D.of (by decide +kernel)
theorem D224_43 {g : im_g} : im_D g 224 43 (.getfield 29) 46 := im_D.of (by decide +kernel)
theorem D224_46 {g : im_g} : im_D g 224 46 (.invokevirtual 155) 49 := im_D.of (by decide +kernel)
theorem D224_49 {g : im_g} : im_D g 224 49 (.iconst 0) 50 := im_D.of (by decide +kernel)
theorem D224_50 {g : im_g} : im_D g 224 50 (.ireturn) 51 := im_D.of (by decide +kernel)
theorem D224_51 {g : im_g} : im_D g 224 51 (.aload_n 0) 52 := im_D.of (by decide +kernel)
theorem D224_52 {g : im_g} : im_D g 224 52 (.aload_n 3) 53 := im_D.of (by decide +kernel)
theorem D224_53 {g : im_g} : im_D g 224 53 (.getfield 362) 56 := im_D.of (by decide +kernel)
theorem D224_56 {g : im_g} : im_D g 224 56 (.iload_n 1) 57 := im_D.of (by decide +kernel)
theorem D224_57 {g : im_g} : im_D g 224 57 (.aaload) 58 := im_D.of (by decide +kernel)
theorem D224_58 {g : im_g} : im_D g 224 58 (.invokevirtual 280) 61 := im_D.of (by decide +kernel)
theorem D224_61 {g : im_g} : im_D g 224 61 (.ireturn) 62 := im_D.of (by decide +kernel)
theorem D226_0 {g : im_g} : im_D g 226 0 (.aload_n 0) 1 := im_D.of (by decide +kernel)
theorem D226_1 {g : im_g} : im_D g 226 1 (.aload_n 0) 2 := im_D.of (by decide +kernel)
theorem D226_2 {g : im_g} : im_D g 226 2 (.getfield 84) 5 := im_D.of (by decide +kernel)
theorem D226_5 {g : im_g} : im_D g 226 5 (.iload_n 1) 6 := im_D.of (by decide +kernel)
theorem D226_6 {g : im_g} : im_D g 226 6 (.iload_n 2) 7 := im_D.of (by decide +kernel)
theorem D226_7 {g : im_g} : im_D g 226 7 (.invokevirtual 357) 10 := im_D.of (by decide +kernel)
theorem D226_10 {g : im_g} : im_D g 226 10 (.lreturn) 11 := im_D.of (by decide +kernel)
theorem D228_0 {g : im_g} : im_D g 228 0 (.aload_n 0) 1 := im_D.of (by decide +kernel)
theorem D228_1 {g : im_g} : im_D g 228 1 (.aload_n 0) 2 := im_D.of (by decide +kernel)
theorem D228_2 {g : im_g} : im_D g 228 2 (.lload_n 1) 3 := im_D.of (by decide +kernel)
theorem D228_3 {g : im_g} : im_D g 228 3 (.lload_n 3) 4 := im_D.of (by decide +kernel)
theorem D228_4 {g : im_g} : im_D g 228 4 (.aload_n 0) 5 := im_D.of (by decide +kernel)
theorem D228_5 {g : im_g} : im_D g 228 5 (.invokevirtual 161) 8 := im_D.of (by decide +kernel)
theorem D228_8 {g : im_g} : im_D g 228 8 (.invokevirtual 368) 11 := im_D.of (by decide +kernel)
theorem D228_11 {g : im_g} : im_D g 228 11 (.invokevirtual 169) 14 := im_D.of (by decide +kernel)
theorem D228_14 {g : im_g} : im_D g 228 14 (.ireturn) 15 := im_D.of (by decide +kernel)
theorem D230_0 {g : im_g} : im_D g 230 0 (.aload_n 0) 1 := im_D.of (by decide +kernel)
theorem D230_1 {g : im_g} : im_D g 230 1 (.invokevirtual 124) 4 := im_D.of (by decide +kernel)
theorem D230_4 {g : im_g} : im_D g 230 4 (.aload_n 0) 5 := im_D.of (by decide +kernel)
theorem D230_5 {g : im_g} : im_D g 230 5 (.getfield 16) 8 := im_D.of (by decide +kernel)
theorem D230_8 {g : im_g} : im_D g 230 8 (.lload_n 1) 9 := im_D.of (by decide +kernel)
theorem D230_9 {g : im_g} : im_D g 230 9 (.invokevirtual 299) 12 := im_D.of (by decide +kernel)
theorem D230_12 {g : im_g} : im_D g 230 12 (.ifCond .eq 18) 15 := im_D.of (by decide +kernel)
theorem D230_15 {g : im_g} : im_D g 230 15 (.aload_n 0) 16 := im_D.of (by decide +kernel)
theorem D230_16 {g : im_g} : im_D g 230 16 (.getfield 16) 19 := im_D.of (by decide +kernel)
theorem D230_19 {g : im_g} : im_D g 230 19 (.lload_n 3) 20 := im_D.of (by decide +kernel)
theorem D230_20 {g : im_g} : im_D g 230 20 (.invokevirtual 299) 23 := im_D.of (by decide +kernel)
theorem D230_23 {g : im_g} : im_D g 230 23 (.ifCond .eq 7) 26 := im_D.of (by decide +kernel)
theorem D230_26 {g : im_g} : im_D g 230 26 (.iconst 1) 27 := im_D.of (by decide +kernel)
theorem D230_27 {g : im_g} : im_D g 230 27 (.goto 4) 30 := im_D.of (by decide +kernel)
theorem D230_30 {g : im_g} : im_D g 230 30 (.iconst 0) 31 := im_D.of (by decide +kernel)
theorem D230_31 {g : im_g} : im_D g 230 31 (.invokestatic 195) 34 := im_D.of (by decide +kernel)
theorem D230_34 {g : im_g} : im_D g 230 34 (.aload_n 0) 35 := im_D.of (by decide +kernel)
theorem D230_35 {g : im_g} : im_D g 230 35 (.aload_n 0) 36 := im_D.of (by decide +kernel)
theorem D230_36 {g : im_g} : im_D g 230 36 (.getfield 68) 39 := im_D.of (by decide +kernel)
theorem D230_39 {g : im_g} : im_D g 230 39 (.lload_n 1) 40 := im_D.of (by decide +kernel)
theorem D230_40 {g : im_g} : im_D g 230 40 (.lload_n 3) 41 := im_D.of (by decide +kernel)
theorem D230_41 {g : im_g} : im_D g 230 41 (.invokevirtual 372) 44 := im_D.of (by decide +kernel)
theorem D230_44 {g : im_g} : im_D g 230 44 (.invokevirtual 280) 47 := im_D.of (by decide +kernel)
theorem D230_47 {g : im_g} : im_D g 230 47 (.ireturn) 48 := im_D.of (by decide +kernel)
set_option maxRecDepth 20000 in
set_option maxHeartbeats 4000000 in
theorem k_Pool_nestedWhens_0 {g : im_g} {d : Nat} {e : im_E} {M : im_M} {K : im_K} {p1 : Int} (hP : im_T g d 192 4 [some (.ref 13), some (vI p1), some (vI 0), some (vI p1)] [] e M K) : im_T g d 192 0 [some (.ref 13), some (vI p1), none, none] [] e M K := by
  refine im_iconst (q := 1) D192_0 ?_
  refine im_st1 (q := 2) (i := 2) (L' := [some (.ref 13), some (vI p1), some (vI 0), none]) D192_1 (Or.inl ⟨_, rfl, rfl⟩) (Nat.le_of_ble_eq_true rfl) rfl ?_
  refine im_ld (q := 3) (i := 1) D192_2 rfl rfl rfl ?_
  refine im_st1 (q := 4) (i := 3) (L' := [some (.ref 13), some (vI p1), some (vI 0), some (vI p1)]) D192_3 (Or.inl ⟨_, rfl, rfl⟩) (Nat.le_of_ble_eq_true rfl) rfl ?_
  exact hP.wk ⟨rfl, rfl, rfl, rfl, trivial⟩
set_option maxRecDepth 20000 in
set_option maxHeartbeats 4000000 in
theorem k_Pool_nestedWhens_4 {g : im_g} {d : Nat} {e : im_E} {M : im_M} {K : im_K} {p1 p2 p3 : Int} (hP : (0 ≤ p1 ∧ p1 < 5000) ∧ (im_i32 p3) ∧ (((M 15 p1) ≤ p3 → K (.inl (some (vI p2))) e M) ∧ (p3 < (M 15 p1) → (0 ≤ p3 ∧ p3 < 5000) ∧ (im_i32 p2) ∧ im_T g d 192 4 [some (.ref 13), some (vI p1), some (vI (max p2 (M 17 p3))), some (vI (p3 + 1))] [] e M K))) : im_T g d 192 4 [some (.ref 13), some (vI p1), some (vI p2), some (vI p3)] [] e M K := by
  refine im_ld (q := 5) (i := 3) D192_4 rfl rfl rfl ?_
  refine im_ld (q := 6) (i := 0) D192_5 rfl rfl rfl ?_
  refine im_gfR (q := 9) (b := 15) D192_6 (im_fl cn_192 fl_5_15) sf_13 rfl rfl tR_5_1 rfl ?_
  refine im_ld (q := 10) (i := 1) D192_9 rfl rfl rfl ?_
  obtain ⟨hg1, hP⟩ := hP
  refine im_rng (j := p1) sf_15 hg1.1 hg1.2 (fun hr2 => ?_)
  refine im_iald (q := 11) D192_10 sf_15 hg1.1 hg1.2 (by decide) rfl ?_
  obtain ⟨hg3, hP⟩ := hP
  refine im_icmp (q := 14) (t := 31) D192_11 rfl hg3 hr2 (fun hc4 => ?_) (fun hc4 => ?_)
  · replace hP := hP.1 hc4
    refine im_ld (q := 32) (i := 2) D192_31 rfl rfl rfl ?_
    exact im_iret (q := 33) D192_32 rfl hP
  · replace hP := hP.2 (Int.not_le.mp hc4)
    refine im_ld (q := 15) (i := 2) D192_14 rfl rfl rfl ?_
    refine im_ld (q := 16) (i := 0) D192_15 rfl rfl rfl ?_
    refine im_gfR (q := 19) (b := 17) D192_16 (im_fl cn_192 fl_5_21) sf_13 rfl rfl tR_5_3 rfl ?_
    refine im_ld (q := 20) (i := 3) D192_19 rfl rfl rfl ?_
    obtain ⟨hg5, hP⟩ := hP
    refine im_rng (j := p3) sf_17 hg5.1 hg5.2 (fun hr6 => ?_)
    refine im_iald (q := 21) D192_20 sf_17 hg5.1 hg5.2 (by decide) rfl ?_
    obtain ⟨hg7, hP⟩ := hP
    refine im_imax (q := 24) D192_21 rfl hg7 hr6 rfl ?_
    refine im_st1 (q := 25) (i := 2) (L' := [some (.ref 13), some (vI p1), some (vI (max p2 (M 17 p3))), some (vI p3)]) D192_24 (Or.inl ⟨_, rfl, rfl⟩) (Nat.le_of_ble_eq_true rfl) rfl ?_
    refine im_iinc (q := 28) (i := 3) (L' := [some (.ref 13), some (vI p1), some (vI (max p2 (M 17 p3))), some (vI (p3 + 1))]) D192_25 rfl (Nat.le_of_ble_eq_true rfl) rfl ?_
    refine im_goto (q := 31) (t := 4) D192_28 rfl ?_
    exact hP.wk ⟨rfl, rfl, rfl, rfl, trivial⟩
set_option maxRecDepth 20000 in
set_option maxHeartbeats 4000000 in
theorem k_Pool_accountsOf_0 {g : im_g} {d : Nat} {e : im_E} {M : im_M} {K : im_K} {p1 : Int} (hP : im_T g d 193 4 [some (.ref 13), some (vI p1), some (vI 0), some (vI p1), none, none] [] e M K) : im_T g d 193 0 [some (.ref 13), some (vI p1), none, none, none, none] [] e M K := by
  refine im_iconst (q := 1) D193_0 ?_
  refine im_st1 (q := 2) (i := 2) (L' := [some (.ref 13), some (vI p1), some (vI 0), none, none, none]) D193_1 (Or.inl ⟨_, rfl, rfl⟩) (Nat.le_of_ble_eq_true rfl) rfl ?_
  refine im_ld (q := 3) (i := 1) D193_2 rfl rfl rfl ?_
  refine im_st1 (q := 4) (i := 3) (L' := [some (.ref 13), some (vI p1), some (vI 0), some (vI p1), none, none]) D193_3 (Or.inl ⟨_, rfl, rfl⟩) (Nat.le_of_ble_eq_true rfl) rfl ?_
  exact hP.wk ⟨rfl, rfl, rfl, rfl, trivial⟩
set_option maxRecDepth 20000 in
set_option maxHeartbeats 4000000 in
theorem k_Pool_accountsOf_4 {g : im_g} {d : Nat} {e : im_E} {M : im_M} {K : im_K} {p1 p2 p3 : Int} (hd : 1 ≤ d) (hP : (0 ≤ p1 ∧ p1 < 5000) ∧ (im_i32 p3) ∧ (((M 15 p1) ≤ p3 → K (.inl (some (vI p2))) e M) ∧ (p3 < (M 15 p1) → im_T g (d - 1) 194 0 [some (.ref 13), some (vI p3)] [] e M (im_ri (fun x6 e_ M5 => e = e_ ∧ im_T g d 193 24 [some (.ref 13), some (vI p1), some (vI p2), some (vI p3), some (vI x6), some (vI p1)] [] e M5 K))))) : im_T g d 193 4 [some (.ref 13), some (vI p1), some (vI p2), some (vI p3), none, none] [] e M K := by
  refine im_ld (q := 5) (i := 3) D193_4 rfl rfl rfl ?_
  refine im_ld (q := 6) (i := 0) D193_5 rfl rfl rfl ?_
  refine im_gfR (q := 9) (b := 15) D193_6 (im_fl cn_193 fl_5_15) sf_13 rfl rfl tR_5_1 rfl ?_
  refine im_ld (q := 10) (i := 1) D193_9 rfl rfl rfl ?_
  obtain ⟨hg1, hP⟩ := hP
  refine im_rng (j := p1) sf_15 hg1.1 hg1.2 (fun hr2 => ?_)
  refine im_iald (q := 11) D193_10 sf_15 hg1.1 hg1.2 (by decide) rfl ?_
  obtain ⟨hg3, hP⟩ := hP
  refine im_icmp (q := 14) (t := 108) D193_11 rfl hg3 hr2 (fun hc4 => ?_) (fun hc4 => ?_)
  · replace hP := hP.1 hc4
    refine im_ld (q := 109) (i := 2) D193_108 rfl rfl rfl ?_
    exact im_iret (q := 110) D193_109 rfl hP
  · replace hP := hP.2 (Int.not_le.mp hc4)
    refine im_ld (q := 15) (i := 0) D193_14 rfl rfl rfl ?_
    refine im_ld (q := 16) (i := 3) D193_15 rfl rfl rfl ?_
    refine im_callV (q := 19) (kd := 1) (y := 194) (n := 1) (ci := 5) (a := 13) (vs := [.ref 13, vI p3]) (r := []) (L2 := [some (.ref 13), some (vI p3)]) D193_16 (im_cal cn_193 cl_5_97) (Or.inl rfl) rfl sf_13 rfl rfl rfl rfl hd ⟨rfl, rfl, trivial⟩ ?_
    refine hP.mono ?_
    rintro _ e7 M5 ⟨x6, rfl, rfl, hP⟩
    refine im_bkS ?_
    refine im_st1 (q := 21) (i := 4) (L' := [some (.ref 13), some (vI p1), some (vI p2), some (vI p3), some (vI x6), none]) D193_19 (Or.inr rfl) (Nat.le_of_ble_eq_true rfl) rfl ?_
    refine im_ld (q := 22) (i := 1) D193_21 rfl rfl rfl ?_
    refine im_st1 (q := 24) (i := 5) (L' := [some (.ref 13), some (vI p1), some (vI p2), some (vI p3), some (vI x6), some (vI p1)]) D193_22 (Or.inr rfl) (Nat.le_of_ble_eq_true rfl) rfl ?_
    exact hP.wk ⟨rfl, rfl, rfl, rfl, rfl, rfl, trivial⟩
set_option maxRecDepth 20000 in
set_option maxHeartbeats 4000000 in
theorem k_Pool_accountsOf_24 {g : im_g} {d : Nat} {e : im_E} {M : im_M} {K : im_K} {p1 p2 p3 p4 p5 : Int} (hd : 1 ≤ d) (hP : (im_i32 p5) ∧ (im_i32 p3) ∧ ((((p5 < p3 → (im_i32 p4) ∧ ((¬ p4 = 0 → im_T g (d - 1) 194 0 [some (.ref 13), some (vI p5)] [] e M (im_ri (fun x16 e_ M15 => e = e_ ∧ (im_i32 x16) ∧ ((x16 = 0 → im_T g d 193 24 [some (.ref 13), some (vI p1), some (vI p2), some (vI p3), some (vI 1), some (vI (p5 + 1))] [] e M15 K) ∧ (¬ x16 = 0 → im_T g (d - 1) 195 0 [some (.ref 13), some (vI p5)] [] e M15 (im_rl (fun x20 e_ M19 => e = e_ ∧ im_T g (d - 1) 195 0 [some (.ref 13), some (vI p3)] [] e M19 (im_rl (fun x22 e_ M21 => e = e_ ∧ (im_i64 x20) ∧ (im_i64 x22) ∧ ((((x20 = x22 → (0 ≤ p5 ∧ p5 < 5000) ∧ (0 ≤ p3 ∧ p3 < 5000) ∧ (((M21 21 p5) = (M21 21 p3) → im_T g d 193 24 [some (.ref 13), some (vI p1), some (vI p2), some (vI p3), some (vI 0), some (vI (p5 + 1))] [] e M21 K))))) ∧ ((((¬ x20 = x22)) ∨ ((x20 = x22) ∧ (¬ (M21 21 p5) = (M21 21 p3)))) → im_T g d 193 24 [some (.ref 13), some (vI p1), some (vI p2), some (vI p3), some (vI 1), some (vI (p5 + 1))] [] e M21 K))))))))))))))) ∧ ((((p3 ≤ p5)) ∨ ((p5 < p3) ∧ (p4 = 0))) → (im_i32 p4) ∧ ((∀ x11 : Int, (((p4 = 0) ∧ x11 = 0) ∨ ((¬ p4 = 0) ∧ x11 = 1)) → im_T g d 193 4 [some (.ref 13), some (vI p1), some (vI (p2 + x11)), some (vI (p3 + 1)), none, none] [] e M K))))) : im_T g d 193 24 [some (.ref 13), some (vI p1), some (vI p2), some (vI p3), some (vI p4), some (vI p5)] [] e M K := by
  refine im_ld (q := 26) (i := 5) D193_24 rfl rfl rfl ?_
  refine im_ld (q := 27) (i := 3) D193_26 rfl rfl rfl ?_
  obtain ⟨hg1, hP⟩ := hP
  obtain ⟨hg2, hP⟩ := hP
  obtain ⟨hP, hJ6⟩ := hP
  have kJ7 : (((p3 ≤ p5)) ∨ ((p5 < p3) ∧ (p4 = 0))) → im_T g d 193 89 [some (.ref 13), some (vI p1), some (vI p2), some (vI p3), some (vI p4), none] [] e M K := by
    intro  hx8
    have hP := hJ6  hx8
    refine im_ld (q := 90) (i := 2) D193_89 rfl rfl rfl ?_
    refine im_ld (q := 92) (i := 4) D193_90 rfl rfl rfl ?_
    obtain ⟨hg9, hP⟩ := hP
    have hJ12 := hP
    have kJ13 : ∀ x11 : Int, (((p4 = 0) ∧ x11 = 0) ∨ ((¬ p4 = 0) ∧ x11 = 1)) → im_T g d 193 100 [some (.ref 13), some (vI p1), none, some (vI p3), none, none] [vI x11, vI p2] e M K := by
      intro x11 hx14
      have hP := hJ12 x11 hx14
      refine im_iadd (q := 101) D193_100 ?_
      refine im_st1 (q := 102) (i := 2) (L' := [some (.ref 13), some (vI p1), some (vI (p2 + x11)), some (vI p3), none, none]) D193_101 (Or.inl ⟨_, rfl, rfl⟩) (Nat.le_of_ble_eq_true rfl) rfl ?_
      refine im_iinc (q := 105) (i := 3) (L' := [some (.ref 13), some (vI p1), some (vI (p2 + x11)), some (vI (p3 + 1)), none, none]) D193_102 rfl (Nat.le_of_ble_eq_true rfl) rfl ?_
      refine im_goto (q := 108) (t := 4) D193_105 rfl ?_
      exact hP.wk ⟨rfl, rfl, rfl, rfl, trivial⟩
    refine im_ifc (q := 95) (t := 99) D193_92 rfl hg9 (fun hc10 => ?_) (fun hc10 => ?_)
    · refine im_iconst (q := 100) D193_99 ?_
      exact (kJ13 (0) (Or.inl ⟨hc10, rfl⟩)).wk ⟨rfl, rfl, rfl, trivial⟩
    · refine im_iconst (q := 96) D193_95 ?_
      refine im_goto (q := 99) (t := 100) D193_96 rfl ?_
      exact (kJ13 (1) (Or.inr ⟨hc10, rfl⟩)).wk ⟨rfl, rfl, rfl, trivial⟩
  refine im_icmp (q := 30) (t := 89) D193_27 rfl hg1 hg2 (fun hc3 => ?_) (fun hc3 => ?_)
  · exact (kJ7  (Or.inl hc3)).wk ⟨rfl, rfl, rfl, rfl, rfl, trivial⟩
  · replace hP := hP (Int.not_le.mp hc3)
    refine im_ld (q := 32) (i := 4) D193_30 rfl rfl rfl ?_
    obtain ⟨hg4, hP⟩ := hP
    refine im_ifc (q := 35) (t := 89) D193_32 rfl hg4 (fun hc5 => ?_) (fun hc5 => ?_)
    · exact (kJ7  (Or.inr ⟨(Int.not_le.mp hc3), hc5⟩)).wk ⟨rfl, rfl, rfl, rfl, rfl, trivial⟩
    · replace hP := hP hc5
      refine im_ld (q := 36) (i := 0) D193_35 rfl rfl rfl ?_
      refine im_ld (q := 38) (i := 5) D193_36 rfl rfl rfl ?_
      refine im_callV (q := 41) (kd := 1) (y := 194) (n := 1) (ci := 5) (a := 13) (vs := [.ref 13, vI p5]) (r := []) (L2 := [some (.ref 13), some (vI p5)]) D193_38 (im_cal cn_193 cl_5_97) (Or.inl rfl) rfl sf_13 rfl rfl rfl rfl hd ⟨rfl, rfl, trivial⟩ ?_
      refine hP.mono ?_
      rintro _ e36 M15 ⟨x16, rfl, rfl, hP⟩
      refine im_bkS ?_
      obtain ⟨hg17, hP⟩ := hP
      refine im_ifc (q := 44) (t := 76) D193_41 rfl hg17 (fun hc18 => ?_) (fun hc18 => ?_)
      · replace hP := hP.1 hc18
        refine im_iconst (q := 77) D193_76 ?_
        refine im_goto (q := 80) (t := 81) D193_77 rfl ?_
        refine im_st1 (q := 83) (i := 4) (L' := [some (.ref 13), some (vI p1), some (vI p2), some (vI p3), some (vI 1), some (vI p5)]) D193_81 (Or.inr rfl) (Nat.le_of_ble_eq_true rfl) rfl ?_
        refine im_iinc (q := 86) (i := 5) (L' := [some (.ref 13), some (vI p1), some (vI p2), some (vI p3), some (vI 1), some (vI (p5 + 1))]) D193_83 rfl (Nat.le_of_ble_eq_true rfl) rfl ?_
        refine im_goto (q := 89) (t := 24) D193_86 rfl ?_
        exact hP.wk ⟨rfl, rfl, rfl, rfl, rfl, rfl, trivial⟩
      · replace hP := hP.2 hc18
        refine im_ld (q := 45) (i := 0) D193_44 rfl rfl rfl ?_
        refine im_ld (q := 47) (i := 5) D193_45 rfl rfl rfl ?_
        refine im_callV (q := 50) (kd := 1) (y := 195) (n := 1) (ci := 5) (a := 13) (vs := [.ref 13, vI p5]) (r := []) (L2 := [some (.ref 13), some (vI p5)]) D193_47 (im_cal cn_193 cl_5_100) (Or.inl rfl) rfl sf_13 rfl rfl rfl rfl hd ⟨rfl, rfl, trivial⟩ ?_
        refine hP.mono ?_
        rintro _ e35 M19 ⟨x20, rfl, rfl, hP⟩
        refine im_bkS ?_
        refine im_ld (q := 51) (i := 0) D193_50 rfl rfl rfl ?_
        refine im_ld (q := 52) (i := 3) D193_51 rfl rfl rfl ?_
        refine im_callV (q := 55) (kd := 1) (y := 195) (n := 1) (ci := 5) (a := 13) (vs := [.ref 13, vI p3]) (r := [vL x20]) (L2 := [some (.ref 13), some (vI p3)]) D193_52 (im_cal cn_193 cl_5_100) (Or.inl rfl) rfl sf_13 rfl rfl rfl rfl hd ⟨rfl, rfl, trivial⟩ ?_
        refine hP.mono ?_
        rintro _ e34 M21 ⟨x22, rfl, rfl, hP⟩
        refine im_bkS ?_
        obtain ⟨hg23, hP⟩ := hP
        obtain ⟨hg24, hP⟩ := hP
        obtain ⟨hP, hJ31⟩ := hP
        have kJ32 : (((¬ x20 = x22)) ∨ ((x20 = x22) ∧ (¬ (M21 21 p5) = (M21 21 p3)))) → im_T g d 193 76 [some (.ref 13), some (vI p1), some (vI p2), some (vI p3), none, some (vI p5)] [] e M21 K := by
          intro  hx33
          have hP := hJ31  hx33
          refine im_iconst (q := 77) D193_76 ?_
          refine im_goto (q := 80) (t := 81) D193_77 rfl ?_
          refine im_st1 (q := 83) (i := 4) (L' := [some (.ref 13), some (vI p1), some (vI p2), some (vI p3), some (vI 1), some (vI p5)]) D193_81 (Or.inr rfl) (Nat.le_of_ble_eq_true rfl) rfl ?_
          refine im_iinc (q := 86) (i := 5) (L' := [some (.ref 13), some (vI p1), some (vI p2), some (vI p3), some (vI 1), some (vI (p5 + 1))]) D193_83 rfl (Nat.le_of_ble_eq_true rfl) rfl ?_
          refine im_goto (q := 89) (t := 24) D193_86 rfl ?_
          exact hP.wk ⟨rfl, rfl, rfl, rfl, rfl, rfl, trivial⟩
        refine im_lif (q := 56) (q2 := 59) (t := 76) D193_55 D193_56 rfl hg23 hg24 (fun hc25 => ?_) (fun hc25 => ?_)
        · exact (kJ32  (Or.inl hc25)).wk ⟨rfl, rfl, rfl, rfl, rfl, trivial⟩
        · replace hP := hP (Decidable.not_not.mp hc25)
          refine im_ld (q := 60) (i := 0) D193_59 rfl rfl rfl ?_
          refine im_gfR (q := 63) (b := 21) D193_60 (im_fl cn_193 fl_5_34) sf_13 rfl rfl tR_5_7 rfl ?_
          refine im_ld (q := 65) (i := 5) D193_63 rfl rfl rfl ?_
          obtain ⟨hg26, hP⟩ := hP
          refine im_rng (j := p5) sf_21 hg26.1 hg26.2 (fun hr27 => ?_)
          refine im_lald (q := 66) D193_65 sf_21 hg26.1 hg26.2 (by decide) rfl ?_
          refine im_ld (q := 67) (i := 0) D193_66 rfl rfl rfl ?_
          refine im_gfR (q := 70) (b := 21) D193_67 (im_fl cn_193 fl_5_34) sf_13 rfl rfl tR_5_7 rfl ?_
          refine im_ld (q := 71) (i := 3) D193_70 rfl rfl rfl ?_
          obtain ⟨hg28, hP⟩ := hP
          refine im_rng (j := p3) sf_21 hg28.1 hg28.2 (fun hr29 => ?_)
          refine im_lald (q := 72) D193_71 sf_21 hg28.1 hg28.2 (by decide) rfl ?_
          refine im_lif (q := 73) (q2 := 76) (t := 80) D193_72 D193_73 rfl hr27 hr29 (fun hc30 => ?_) (fun hc30 => ?_)
          · replace hP := hP hc30
            refine im_iconst (q := 81) D193_80 ?_
            refine im_st1 (q := 83) (i := 4) (L' := [some (.ref 13), some (vI p1), some (vI p2), some (vI p3), some (vI 0), some (vI p5)]) D193_81 (Or.inr rfl) (Nat.le_of_ble_eq_true rfl) rfl ?_
            refine im_iinc (q := 86) (i := 5) (L' := [some (.ref 13), some (vI p1), some (vI p2), some (vI p3), some (vI 0), some (vI (p5 + 1))]) D193_83 rfl (Nat.le_of_ble_eq_true rfl) rfl ?_
            refine im_goto (q := 89) (t := 24) D193_86 rfl ?_
            exact hP.wk ⟨rfl, rfl, rfl, rfl, rfl, rfl, trivial⟩
          · exact (kJ32  (Or.inr ⟨(Decidable.not_not.mp hc25), hc30⟩)).wk ⟨rfl, rfl, rfl, rfl, rfl, trivial⟩
set_option maxRecDepth 20000 in
set_option maxHeartbeats 4000000 in
theorem k_Pool_givesToAccount_0 {g : im_g} {d : Nat} {e : im_E} {M : im_M} {K : im_K} {p1 : Int} (hP : (0 ≤ p1 ∧ p1 < 5000) ∧ ((((((M 14 p1) = 28)) ∨ ((¬ (M 14 p1) = 28) ∧ ((M 14 p1) = 1) ∧ ((M 18 p1) = 1))) → K (.inl (some (vI 1))) e M) ∧ ((((¬ (M 14 p1) = 28) ∧ (¬ (M 14 p1) = 1)) ∨ ((¬ (M 14 p1) = 28) ∧ ((M 14 p1) = 1) ∧ (¬ (M 18 p1) = 1))) → K (.inl (some (vI 0))) e M))) : im_T g d 194 0 [some (.ref 13), some (vI p1)] [] e M K := by
  refine im_ld (q := 1) (i := 0) D194_0 rfl rfl rfl ?_
  refine im_gfR (q := 4) (b := 14) D194_1 (im_fl cn_194 fl_5_9) sf_13 rfl rfl tR_5_0 rfl ?_
  refine im_ld (q := 5) (i := 1) D194_4 rfl rfl rfl ?_
  obtain ⟨hg1, hP⟩ := hP
  refine im_rng (j := p1) sf_14 hg1.1 hg1.2 (fun hr2 => ?_)
  refine im_iald (q := 6) D194_5 sf_14 hg1.1 hg1.2 (by decide) rfl ?_
  refine im_bipush (q := 8) D194_6 rfl ?_
  obtain ⟨hJ8, hJ11⟩ := hP
  have kJ9 : ((((M 14 p1) = 28)) ∨ ((¬ (M 14 p1) = 28) ∧ ((M 14 p1) = 1) ∧ ((M 18 p1) = 1))) → im_T g d 194 31 [none, none] [] e M K := by
    intro  hx10
    have hP := hJ8  hx10
    refine im_iconst (q := 32) D194_31 ?_
    refine im_goto (q := 35) (t := 36) D194_32 rfl ?_
    exact im_zret (q := 37) D194_36 rfl (by decide) hP
  have kJ12 : (((¬ (M 14 p1) = 28) ∧ (¬ (M 14 p1) = 1)) ∨ ((¬ (M 14 p1) = 28) ∧ ((M 14 p1) = 1) ∧ (¬ (M 18 p1) = 1))) → im_T g d 194 35 [none, none] [] e M K := by
    intro  hx13
    have hP := hJ11  hx13
    refine im_iconst (q := 36) D194_35 ?_
    exact im_zret (q := 37) D194_36 rfl (by decide) hP
  refine im_icmp (q := 11) (t := 31) D194_8 rfl hr2 (by decide) (fun hc3 => ?_) (fun hc3 => ?_)
  · exact (kJ9  (Or.inl hc3)).wk trivial
  · refine im_ld (q := 12) (i := 0) D194_11 rfl rfl rfl ?_
    refine im_gfR (q := 15) (b := 14) D194_12 (im_fl cn_194 fl_5_9) sf_13 rfl rfl tR_5_0 rfl ?_
    refine im_ld (q := 16) (i := 1) D194_15 rfl rfl rfl ?_
    refine im_iald (q := 17) D194_16 sf_14 hg1.1 hg1.2 (by decide) rfl ?_
    refine im_iconst (q := 18) D194_17 ?_
    refine im_icmp (q := 21) (t := 35) D194_18 rfl hr2 (by decide) (fun hc5 => ?_) (fun hc5 => ?_)
    · exact (kJ12  (Or.inl ⟨hc3, hc5⟩)).wk trivial
    · refine im_ld (q := 22) (i := 0) D194_21 rfl rfl rfl ?_
      refine im_gfR (q := 25) (b := 18) D194_22 (im_fl cn_194 fl_5_24) sf_13 rfl rfl tR_5_4 rfl ?_
      refine im_ld (q := 26) (i := 1) D194_25 rfl rfl rfl ?_
      refine im_rng (j := p1) sf_18 hg1.1 hg1.2 (fun hr6 => ?_)
      refine im_iald (q := 27) D194_26 sf_18 hg1.1 hg1.2 (by decide) rfl ?_
      refine im_iconst (q := 28) D194_27 ?_
      refine im_icmp (q := 31) (t := 35) D194_28 rfl hr6 (by decide) (fun hc7 => ?_) (fun hc7 => ?_)
      · exact (kJ12  (Or.inr ⟨hc3, (Decidable.not_not.mp hc5), hc7⟩)).wk trivial
      · exact (kJ9  (Or.inr ⟨hc3, (Decidable.not_not.mp hc5), (Decidable.not_not.mp hc7)⟩)).wk trivial
set_option maxRecDepth 20000 in
set_option maxHeartbeats 4000000 in
theorem k_Pool_ownerAt_0 {g : im_g} {d : Nat} {e : im_E} {M : im_M} {K : im_K} {p1 : Int} (hP : (0 ≤ p1 ∧ p1 < 5000) ∧ ((∀ x6 : Int, (((¬ (M 14 p1) = 28) ∧ x6 = (M 20 p1)) ∨ (((M 14 p1) = 28) ∧ x6 = (M 19 p1))) → K (.inl (some (vL x6))) e M))) : im_T g d 195 0 [some (.ref 13), some (vI p1)] [] e M K := by
  refine im_ld (q := 1) (i := 0) D195_0 rfl rfl rfl ?_
  refine im_gfR (q := 4) (b := 14) D195_1 (im_fl cn_195 fl_5_9) sf_13 rfl rfl tR_5_0 rfl ?_
  refine im_ld (q := 5) (i := 1) D195_4 rfl rfl rfl ?_
  obtain ⟨hg1, hP⟩ := hP
  refine im_rng (j := p1) sf_14 hg1.1 hg1.2 (fun hr2 => ?_)
  refine im_iald (q := 6) D195_5 sf_14 hg1.1 hg1.2 (by decide) rfl ?_
  refine im_bipush (q := 8) D195_6 rfl ?_
  have hJ7 := hP
  have kJ8 : ∀ x6 : Int, (((¬ (M 14 p1) = 28) ∧ x6 = (M 20 p1)) ∨ (((M 14 p1) = 28) ∧ x6 = (M 19 p1))) → im_T g d 195 26 [none, none] [vL x6] e M K := by
    intro x6 hx9
    have hP := hJ7 x6 hx9
    exact im_lret (q := 27) D195_26 rfl hP
  refine im_icmp (q := 11) (t := 20) D195_8 rfl hr2 (by decide) (fun hc3 => ?_) (fun hc3 => ?_)
  · refine im_ld (q := 21) (i := 0) D195_20 rfl rfl rfl ?_
    refine im_gfR (q := 24) (b := 20) D195_21 (im_fl cn_195 fl_5_31) sf_13 rfl rfl tR_5_6 rfl ?_
    refine im_ld (q := 25) (i := 1) D195_24 rfl rfl rfl ?_
    refine im_rng (j := p1) sf_20 hg1.1 hg1.2 (fun hr4 => ?_)
    refine im_lald (q := 26) D195_25 sf_20 hg1.1 hg1.2 (by decide) rfl ?_
    exact (kJ8 ((M 20 p1)) (Or.inl ⟨hc3, rfl⟩)).wk trivial
  · refine im_ld (q := 12) (i := 0) D195_11 rfl rfl rfl ?_
    refine im_gfR (q := 15) (b := 19) D195_12 (im_fl cn_195 fl_5_27) sf_13 rfl rfl tR_5_5 rfl ?_
    refine im_ld (q := 16) (i := 1) D195_15 rfl rfl rfl ?_
    refine im_rng (j := p1) sf_19 hg1.1 hg1.2 (fun hr5 => ?_)
    refine im_lald (q := 17) D195_16 sf_19 hg1.1 hg1.2 (by decide) rfl ?_
    refine im_goto (q := 20) (t := 26) D195_17 rfl ?_
    exact (kJ8 ((M 19 p1)) (Or.inr ⟨(Decidable.not_not.mp hc3), rfl⟩)).wk trivial
set_option maxRecDepth 20000 in
set_option maxHeartbeats 4000000 in
theorem k_P_parameter_0 {g : im_g} {d : Nat} {e : im_E} {M : im_M} {K : im_K} {p1 : Int} (hd : 1 ≤ d) (hP : im_T g (d - 1) 165 0 [some (.ref 0), none] [] e M (im_rx (im_ri (fun x2 e_ M1 => e = e_ ∧ im_T g (d - 1) 147 0 [some (.ref 0), some (vL p1), none, some (vI x2), none] [] e M1 (im_ri (fun x4 e_ M3 => e = e_ ∧ im_T g (d - 1) 166 0 [some (.ref 0), some (vI x4)] [] e M3 (im_rx (im_ri (fun x6 e_ M5 => e = e_ ∧ K (.inl (some (vI x6))) e M5)) (fun E_ e_ M_ => K (.inr E_) e_ M_)))))) (fun E_ e_ M_ => K (.inr E_) e_ M_))) : im_T g d 197 0 [some (.ref 0), some (vL p1), none] [] e M K := by
  refine im_ld (q := 1) (i := 0) D197_0 rfl rfl rfl ?_
  refine im_ld (q := 2) (i := 0) D197_1 rfl rfl rfl ?_
  refine im_ld (q := 3) (i := 1) D197_2 rfl rfl rfl ?_
  refine im_ld (q := 4) (i := 0) D197_3 rfl rfl rfl ?_
  refine im_callV (q := 7) (kd := 1) (y := 165) (n := 0) (ci := 11) (a := 0) (vs := [.ref 0]) (r := [vL p1, .ref 0, .ref 0]) (L2 := [some (.ref 0), none]) D197_4 (im_cal cn_197 cl_11_161) (Or.inl rfl) rfl sf_0 rfl rfl rfl rfl hd ⟨rfl, trivial⟩ ?_
  refine hP.mono ?_
  rintro _ e9 M1 (⟨x2, rfl, rfl, hP⟩ | ⟨E_, rfl, hX⟩)
  · refine im_bkS ?_
    refine im_callV (q := 10) (kd := 1) (y := 147) (n := 2) (ci := 11) (a := 0) (vs := [.ref 0, vL p1, vI x2]) (r := [.ref 0]) (L2 := [some (.ref 0), some (vL p1), none, some (vI x2), none]) D197_7 (im_cal cn_197 cl_11_235) (Or.inl rfl) rfl sf_0 rfl rfl rfl rfl hd ⟨rfl, rfl, rfl, trivial⟩ ?_
    refine hP.mono ?_
    rintro _ e8 M3 ⟨x4, rfl, rfl, hP⟩
    refine im_bkS ?_
    refine im_callV (q := 13) (kd := 1) (y := 166) (n := 1) (ci := 11) (a := 0) (vs := [.ref 0, vI x4]) (r := []) (L2 := [some (.ref 0), some (vI x4)]) D197_10 (im_cal cn_197 cl_11_169) (Or.inl rfl) rfl sf_0 rfl rfl rfl rfl hd ⟨rfl, rfl, trivial⟩ ?_
    refine hP.mono ?_
    rintro _ e7 M5 (⟨x6, rfl, rfl, hP⟩ | ⟨E_, rfl, hX⟩)
    · refine im_bkS ?_
      exact im_iret (q := 14) D197_13 rfl hP
    · exact im_bkE rfl hX
  · exact im_bkE rfl hX
set_option maxRecDepth 20000 in
set_option maxHeartbeats 4000000 in
theorem k_P_forget_0 {g : im_g} {d : Nat} {e : im_E} {M : im_M} {K : im_K} (hd : 1 ≤ d) (hP : im_T g (d - 1) 152 0 [some (.ref 0)] [] e M (im_rx (im_r0 (fun  e_ M1 => e = e_ ∧ im_T g (d - 1) 148 0 [some (.ref 0), none, none] [] e M1 (im_ri (fun x3 e_ M2 => e = e_ ∧ im_T g (d - 1) 166 0 [some (.ref 0), some (vI x3)] [] e M2 (im_rx (im_ri (fun x5 e_ M4 => e = e_ ∧ K (.inl (some (vI x5))) e M4)) (fun E_ e_ M_ => K (.inr E_) e_ M_)))))) (fun E_ e_ M_ => K (.inr E_) e_ M_))) : im_T g d 199 0 [some (.ref 0)] [] e M K := by
  refine im_ld (q := 1) (i := 0) D199_0 rfl rfl rfl ?_
  refine im_callV (q := 4) (kd := 1) (y := 152) (n := 0) (ci := 11) (a := 0) (vs := [.ref 0]) (r := []) (L2 := [some (.ref 0)]) D199_1 (im_cal cn_199 cl_11_124) (Or.inl rfl) rfl sf_0 rfl rfl rfl rfl hd ⟨rfl, trivial⟩ ?_
  refine hP.mono ?_
  rintro _ e8 M1 (⟨rfl, rfl, hP⟩ | ⟨E_, rfl, hX⟩)
  · refine im_bkN ?_
    refine im_ld (q := 5) (i := 0) D199_4 rfl rfl rfl ?_
    refine im_ld (q := 6) (i := 0) D199_5 rfl rfl rfl ?_
    refine im_callV (q := 9) (kd := 1) (y := 148) (n := 0) (ci := 11) (a := 0) (vs := [.ref 0]) (r := [.ref 0]) (L2 := [some (.ref 0), none, none]) D199_6 (im_cal cn_199 cl_11_238) (Or.inl rfl) rfl sf_0 rfl rfl rfl rfl hd ⟨rfl, trivial⟩ ?_
    refine hP.mono ?_
    rintro _ e7 M2 ⟨x3, rfl, rfl, hP⟩
    refine im_bkS ?_
    refine im_callV (q := 12) (kd := 1) (y := 166) (n := 1) (ci := 11) (a := 0) (vs := [.ref 0, vI x3]) (r := []) (L2 := [some (.ref 0), some (vI x3)]) D199_9 (im_cal cn_199 cl_11_169) (Or.inl rfl) rfl sf_0 rfl rfl rfl rfl hd ⟨rfl, rfl, trivial⟩ ?_
    refine hP.mono ?_
    rintro _ e6 M4 (⟨x5, rfl, rfl, hP⟩ | ⟨E_, rfl, hX⟩)
    · refine im_bkS ?_
      exact im_iret (q := 13) D199_12 rfl hP
    · exact im_bkE rfl hX
  · exact im_bkE rfl hX
set_option maxRecDepth 20000 in
set_option maxHeartbeats 4000000 in
theorem k_P_begin_0 {g : im_g} {d : Nat} {e : im_E} {M : im_M} {K : im_K} {p1 p2 p3 : Int} (hd : 1 ≤ d) (hP : im_T g (d - 1) 152 0 [some (.ref 0)] [] e M (im_rx (im_r0 (fun  e_ M1 => e = e_ ∧ (im_i32 p1) ∧ (im_i32 p2) ∧ im_T g (d - 1) 85 0 [some (.ref 0), some (vL p1), none, some (vL p2), none, some (vL p3), none, none, none, none] [] e M1 (im_ri (fun x5 e_ M4 => e = e_ ∧ im_T g (d - 1) 166 0 [some (.ref 0), some (vI x5)] [] e M4 (im_rx (im_ri (fun x7 e_ M6 => e = e_ ∧ K (.inl (some (vI x7))) e M6)) (fun E_ e_ M_ => K (.inr E_) e_ M_)))))) (fun E_ e_ M_ => K (.inr E_) e_ M_))) : im_T g d 201 0 [some (.ref 0), some (vI p1), some (vI p2), some (vL p3), none] [] e M K := by
  refine im_ld (q := 1) (i := 0) D201_0 rfl rfl rfl ?_
  refine im_callV (q := 4) (kd := 1) (y := 152) (n := 0) (ci := 11) (a := 0) (vs := [.ref 0]) (r := []) (L2 := [some (.ref 0)]) D201_1 (im_cal cn_201 cl_11_124) (Or.inl rfl) rfl sf_0 rfl rfl rfl rfl hd ⟨rfl, trivial⟩ ?_
  refine hP.mono ?_
  rintro _ e10 M1 (⟨rfl, rfl, hP⟩ | ⟨E_, rfl, hX⟩)
  · refine im_bkN ?_
    refine im_ld (q := 5) (i := 0) D201_4 rfl rfl rfl ?_
    refine im_ld (q := 6) (i := 0) D201_5 rfl rfl rfl ?_
    refine im_ld (q := 7) (i := 1) D201_6 rfl rfl rfl ?_
    obtain ⟨hg2, hP⟩ := hP
    refine im_i2l (q := 8) D201_7 hg2 ?_
    refine im_ld (q := 9) (i := 2) D201_8 rfl rfl rfl ?_
    obtain ⟨hg3, hP⟩ := hP
    refine im_i2l (q := 10) D201_9 hg3 ?_
    refine im_ld (q := 11) (i := 3) D201_10 rfl rfl rfl ?_
    refine im_callV (q := 14) (kd := 1) (y := 85) (n := 3) (ci := 11) (a := 0) (vs := [.ref 0, vL p1, vL p2, vL p3]) (r := [.ref 0]) (L2 := [some (.ref 0), some (vL p1), none, some (vL p2), none, some (vL p3), none, none, none, none]) D201_11 (im_cal cn_201 cl_11_241) (Or.inl rfl) rfl sf_0 rfl rfl rfl rfl hd ⟨rfl, rfl, rfl, rfl, trivial⟩ ?_
    refine hP.mono ?_
    rintro _ e9 M4 ⟨x5, rfl, rfl, hP⟩
    refine im_bkS ?_
    refine im_callV (q := 17) (kd := 1) (y := 166) (n := 1) (ci := 11) (a := 0) (vs := [.ref 0, vI x5]) (r := []) (L2 := [some (.ref 0), some (vI x5)]) D201_14 (im_cal cn_201 cl_11_169) (Or.inl rfl) rfl sf_0 rfl rfl rfl rfl hd ⟨rfl, rfl, trivial⟩ ?_
    refine hP.mono ?_
    rintro _ e8 M6 (⟨x7, rfl, rfl, hP⟩ | ⟨E_, rfl, hX⟩)
    · refine im_bkS ?_
      exact im_iret (q := 18) D201_17 rfl hP
    · exact im_bkE rfl hX
  · exact im_bkE rfl hX
set_option maxRecDepth 20000 in
set_option maxHeartbeats 4000000 in
theorem k_P_end_0 {g : im_g} {d : Nat} {e : im_E} {M : im_M} {K : im_K} {p1 : Int} (hd : 1 ≤ d) (hP : im_T g (d - 1) 152 0 [some (.ref 0)] [] e M (im_rx (im_r0 (fun  e_ M1 => e = e_ ∧ (im_i32 p1) ∧ im_T g (d - 1) 92 0 [some (.ref 0), some (vL p1), none, none, none] [] e M1 (im_ri (fun x4 e_ M3 => e = e_ ∧ im_T g (d - 1) 166 0 [some (.ref 0), some (vI x4)] [] e M3 (im_rx (im_ri (fun x6 e_ M5 => e = e_ ∧ K (.inl (some (vI x6))) e M5)) (fun E_ e_ M_ => K (.inr E_) e_ M_)))))) (fun E_ e_ M_ => K (.inr E_) e_ M_))) : im_T g d 203 0 [some (.ref 0), some (vI p1)] [] e M K := by
  refine im_ld (q := 1) (i := 0) D203_0 rfl rfl rfl ?_
  refine im_callV (q := 4) (kd := 1) (y := 152) (n := 0) (ci := 11) (a := 0) (vs := [.ref 0]) (r := []) (L2 := [some (.ref 0)]) D203_1 (im_cal cn_203 cl_11_124) (Or.inl rfl) rfl sf_0 rfl rfl rfl rfl hd ⟨rfl, trivial⟩ ?_
  refine hP.mono ?_
  rintro _ e9 M1 (⟨rfl, rfl, hP⟩ | ⟨E_, rfl, hX⟩)
  · refine im_bkN ?_
    refine im_ld (q := 5) (i := 0) D203_4 rfl rfl rfl ?_
    refine im_ld (q := 6) (i := 0) D203_5 rfl rfl rfl ?_
    refine im_ld (q := 7) (i := 1) D203_6 rfl rfl rfl ?_
    obtain ⟨hg2, hP⟩ := hP
    refine im_i2l (q := 8) D203_7 hg2 ?_
    refine im_callV (q := 11) (kd := 1) (y := 92) (n := 1) (ci := 11) (a := 0) (vs := [.ref 0, vL p1]) (r := [.ref 0]) (L2 := [some (.ref 0), some (vL p1), none, none, none]) D203_8 (im_cal cn_203 cl_11_245) (Or.inl rfl) rfl sf_0 rfl rfl rfl rfl hd ⟨rfl, rfl, trivial⟩ ?_
    refine hP.mono ?_
    rintro _ e8 M3 ⟨x4, rfl, rfl, hP⟩
    refine im_bkS ?_
    refine im_callV (q := 14) (kd := 1) (y := 166) (n := 1) (ci := 11) (a := 0) (vs := [.ref 0, vI x4]) (r := []) (L2 := [some (.ref 0), some (vI x4)]) D203_11 (im_cal cn_203 cl_11_169) (Or.inl rfl) rfl sf_0 rfl rfl rfl rfl hd ⟨rfl, rfl, trivial⟩ ?_
    refine hP.mono ?_
    rintro _ e7 M5 (⟨x6, rfl, rfl, hP⟩ | ⟨E_, rfl, hX⟩)
    · refine im_bkS ?_
      exact im_iret (q := 15) D203_14 rfl hP
    · exact im_bkE rfl hX
  · exact im_bkE rfl hX
set_option maxRecDepth 20000 in
set_option maxHeartbeats 4000000 in
theorem k_P_transact_0 {g : im_g} {d : Nat} {e : im_E} {M : im_M} {K : im_K} {p1 p2 p4 : Int} (hd : 1 ≤ d) (hP : (im_i32 p1) ∧ im_T g (d - 1) 165 0 [some (.ref 0), none] [] e M (im_rx (im_ri (fun x3 e_ M2 => e = e_ ∧ im_T g (d - 1) 102 0 [some (.ref 0), some (vL p1), none, some (vL p2), none, some (vL p4), none, some (vI x3), none, none] [] e M2 (im_ri (fun x5 e_ M4 => e = e_ ∧ im_T g (d - 1) 166 0 [some (.ref 0), some (vI x5)] [] e M4 (im_rx (im_ri (fun x7 e_ M6 => e = e_ ∧ K (.inl (some (vI x7))) e M6)) (fun E_ e_ M_ => K (.inr E_) e_ M_)))))) (fun E_ e_ M_ => K (.inr E_) e_ M_))) : im_T g d 205 0 [some (.ref 0), some (vI p1), some (vL p2), none, some (vL p4), none] [] e M K := by
  refine im_ld (q := 1) (i := 0) D205_0 rfl rfl rfl ?_
  refine im_ld (q := 2) (i := 0) D205_1 rfl rfl rfl ?_
  refine im_ld (q := 3) (i := 1) D205_2 rfl rfl rfl ?_
  obtain ⟨hg1, hP⟩ := hP
  refine im_i2l (q := 4) D205_3 hg1 ?_
  refine im_ld (q := 5) (i := 2) D205_4 rfl rfl rfl ?_
  refine im_ld (q := 7) (i := 4) D205_5 rfl rfl rfl ?_
  refine im_ld (q := 8) (i := 0) D205_7 rfl rfl rfl ?_
  refine im_callV (q := 11) (kd := 1) (y := 165) (n := 0) (ci := 11) (a := 0) (vs := [.ref 0]) (r := [vL p4, vL p2, vL p1, .ref 0, .ref 0]) (L2 := [some (.ref 0), none]) D205_8 (im_cal cn_205 cl_11_161) (Or.inl rfl) rfl sf_0 rfl rfl rfl rfl hd ⟨rfl, trivial⟩ ?_
  refine hP.mono ?_
  rintro _ e10 M2 (⟨x3, rfl, rfl, hP⟩ | ⟨E_, rfl, hX⟩)
  · refine im_bkS ?_
    refine im_callV (q := 14) (kd := 1) (y := 102) (n := 4) (ci := 11) (a := 0) (vs := [.ref 0, vL p1, vL p2, vL p4, vI x3]) (r := [.ref 0]) (L2 := [some (.ref 0), some (vL p1), none, some (vL p2), none, some (vL p4), none, some (vI x3), none, none]) D205_11 (im_cal cn_205 cl_11_248) (Or.inl rfl) rfl sf_0 rfl rfl rfl rfl hd ⟨rfl, rfl, rfl, rfl, rfl, trivial⟩ ?_
    refine hP.mono ?_
    rintro _ e9 M4 ⟨x5, rfl, rfl, hP⟩
    refine im_bkS ?_
    refine im_callV (q := 17) (kd := 1) (y := 166) (n := 1) (ci := 11) (a := 0) (vs := [.ref 0, vI x5]) (r := []) (L2 := [some (.ref 0), some (vI x5)]) D205_14 (im_cal cn_205 cl_11_169) (Or.inl rfl) rfl sf_0 rfl rfl rfl rfl hd ⟨rfl, rfl, trivial⟩ ?_
    refine hP.mono ?_
    rintro _ e8 M6 (⟨x7, rfl, rfl, hP⟩ | ⟨E_, rfl, hX⟩)
    · refine im_bkS ?_
      exact im_iret (q := 18) D205_17 rfl hP
    · exact im_bkE rfl hX
  · exact im_bkE rfl hX
set_option maxRecDepth 20000 in
set_option maxHeartbeats 4000000 in
theorem k_P_rest_0 {g : im_g} {d : Nat} {e : im_E} {M : im_M} {K : im_K} {p1 : Int} (hd : 1 ≤ d) (hP : im_T g (d - 1) 208 0 [some (.ref 0), some (vI p1)] [] e M (im_rx (im_rr (fun a2 e_ M1 => e = e_ ∧ im_state e a2 ∧ im_T g (d - 1) 22 0 [some (.ref 7)] [] e M1 (im_r0 (fun  e_ M4 => e = e_ ∧ im_T g (d - 1) 174 0 [some (.ref 7), some (.ref 13), some (vI (M4 a2 5)), none, none, none, none] [] e M4 (im_r0 (fun  e_ M6 => e = e_ ∧ K (.inl (some (vI (M6 7 1)))) e M6)))))) (fun E_ e_ M_ => K (.inr E_) e_ M_))) : im_T g d 207 0 [some (.ref 0), some (vI p1), none] [] e M K := by
  refine im_ld (q := 1) (i := 0) D207_0 rfl rfl rfl ?_
  refine im_ld (q := 2) (i := 1) D207_1 rfl rfl rfl ?_
  refine im_callV (q := 5) (kd := 1) (y := 208) (n := 1) (ci := 11) (a := 0) (vs := [.ref 0, vI p1]) (r := []) (L2 := [some (.ref 0), some (vI p1)]) D207_2 (im_cal cn_207 cl_11_252) (Or.inl rfl) rfl sf_0 rfl rfl rfl rfl hd ⟨rfl, rfl, trivial⟩ ?_
  refine hP.mono ?_
  rintro _ e10 M1 (⟨a2, rfl, rfl, hP⟩ | ⟨E_, rfl, hX⟩)
  · refine im_bkS ?_
    obtain ⟨hb3, hP⟩ := hP
    refine im_stR (q := 6) (i := 2) (L' := [some (.ref 0), some (vI p1), some (.ref a2)]) D207_5 (Or.inl ⟨_, rfl, rfl⟩) (Nat.le_of_ble_eq_true rfl) rfl ?_
    refine im_ld (q := 7) (i := 0) D207_6 rfl rfl rfl ?_
    refine im_gfR (q := 10) (b := 7) D207_7 (im_fl cn_207 fl_11_29) sf_0 rfl rfl tR_11_3 rfl ?_
    refine im_callV (q := 13) (kd := 1) (y := 22) (n := 0) (ci := 10) (a := 7) (vs := [.ref 7]) (r := []) (L2 := [some (.ref 7)]) D207_10 (im_cal cn_207 cl_11_155) (Or.inl rfl) rfl sf_7 rfl rfl rfl rfl hd ⟨rfl, trivial⟩ ?_
    refine hP.mono ?_
    rintro _ e9 M4 ⟨rfl, rfl, hP⟩
    refine im_bkN ?_
    refine im_ld (q := 14) (i := 0) D207_13 rfl rfl rfl ?_
    refine im_gfR (q := 17) (b := 7) D207_14 (im_fl cn_207 fl_11_29) sf_0 rfl rfl tR_11_3 rfl ?_
    refine im_ld (q := 18) (i := 0) D207_17 rfl rfl rfl ?_
    refine im_gfR (q := 21) (b := 13) D207_18 (im_fl cn_207 fl_11_36) sf_0 rfl rfl tR_11_4 rfl ?_
    refine im_ld (q := 22) (i := 2) D207_21 rfl rfl rfl ?_
    refine im_rng (j := 5) hb3.1 (by decide) (show (5 : Int) < ((7 : Nat) : Int) by decide) (fun hr5 => ?_)
    refine im_gfI (q := 25) D207_22 (im_fl cn_207 fl_11_256) hb3.1 rfl rfl tI_9_5 rfl ?_
    refine im_callV (q := 28) (kd := 1) (y := 174) (n := 2) (ci := 10) (a := 7) (vs := [.ref 7, .ref 13, vI (M4 a2 5)]) (r := []) (L2 := [some (.ref 7), some (.ref 13), some (vI (M4 a2 5)), none, none, none, none]) D207_25 (im_cal cn_207 cl_11_191) (Or.inl rfl) rfl sf_7 rfl rfl rfl rfl hd ⟨rfl, rfl, rfl, trivial⟩ ?_
    refine hP.mono ?_
    rintro _ e8 M6 ⟨rfl, rfl, hP⟩
    refine im_bkN ?_
    refine im_ld (q := 29) (i := 0) D207_28 rfl rfl rfl ?_
    refine im_gfR (q := 32) (b := 7) D207_29 (im_fl cn_207 fl_11_29) sf_0 rfl rfl tR_11_3 rfl ?_
    refine im_rng (j := 1) sf_7 (by decide) (by decide) (fun hr7 => ?_)
    refine im_gfI (q := 35) D207_32 (im_fl cn_207 fl_11_149) sf_7 rfl rfl tI_10_1 rfl ?_
    exact im_iret (q := 36) D207_35 rfl hP
  · exact im_bkE rfl hX
set_option maxRecDepth 20000 in
set_option maxHeartbeats 4000000 in
theorem k_P_begun_0 {g : im_g} {d : Nat} {e : im_E} {M : im_M} {K : im_K} {p1 : Int} (hd : 1 ≤ d) (hP : im_T g (d - 1) 152 0 [some (.ref 0)] [] e M (im_rx (im_r0 (fun  e_ M1 => e = e_ ∧ im_T g (d - 1) 169 0 [some (vI p1), some (vI 16)] [] e M1 (im_rx (im_r0 (fun  e_ M2 => e = e_ ∧ (0 ≤ p1 ∧ p1 < 16) ∧ ∃ b4 : Nat, ((M2 29 p1) = (b4 : Int)) ∧ (im_state e b4) ∧ im_T g (d - 1) 167 0 [some (vI (M2 b4 6))] [] e M2 (im_rx (im_r0 (fun  e_ M8 => e = e_ ∧ ∃ b9 : Nat, ((M8 29 p1) = (b9 : Int)) ∧ (im_state e b9) ∧ K (.inl (some (.ref b9))) e M8)) (fun E_ e_ M_ => K (.inr E_) e_ M_)))) (fun E_ e_ M_ => K (.inr E_) e_ M_)))) (fun E_ e_ M_ => K (.inr E_) e_ M_))) : im_T g d 208 0 [some (.ref 0), some (vI p1)] [] e M K := by
  refine im_ld (q := 1) (i := 0) D208_0 rfl rfl rfl ?_
  refine im_callV (q := 4) (kd := 1) (y := 152) (n := 0) (ci := 11) (a := 0) (vs := [.ref 0]) (r := []) (L2 := [some (.ref 0)]) D208_1 (im_cal cn_208 cl_11_124) (Or.inl rfl) rfl sf_0 rfl rfl rfl rfl hd ⟨rfl, trivial⟩ ?_
  refine hP.mono ?_
  rintro _ e14 M1 (⟨rfl, rfl, hP⟩ | ⟨E_, rfl, hX⟩)
  · refine im_bkN ?_
    refine im_ld (q := 5) (i := 1) D208_4 rfl rfl rfl ?_
    refine im_bipush (q := 7) D208_5 rfl ?_
    refine im_callS (q := 10) (kd := 0) (y := 169) (n := 2) (z := 11) (vs := [vI p1, vI 16]) (r := []) (L2 := [some (vI p1), some (vI 16)]) D208_7 rfl (im_cal cn_208 cl_11_183) (Or.inl rfl) rfl rfl rfl rfl rfl hd ⟨rfl, rfl, trivial⟩ ?_
    refine hP.mono ?_
    rintro _ e13 M2 (⟨rfl, rfl, hP⟩ | ⟨E_, rfl, hX⟩)
    · refine im_bkN ?_
      refine im_ld (q := 11) (i := 0) D208_10 rfl rfl rfl ?_
      refine im_gfR (q := 14) (b := 29) D208_11 (im_fl cn_208 fl_11_55) sf_0 rfl rfl tR_11_7 rfl ?_
      refine im_ld (q := 15) (i := 1) D208_14 rfl rfl rfl ?_
      obtain ⟨hg3, hP⟩ := hP
      obtain ⟨b4, hb5, hP⟩ := hP
      obtain ⟨hb6, hP⟩ := hP
      refine im_aald (q := 16) D208_15 sf_29 (Or.inr rfl) hg3.1 hg3.2 (by decide) hb5 ?_
      refine im_rng (j := 6) hb6.1 (by decide) (show (6 : Int) < ((7 : Nat) : Int) by decide) (fun hr7 => ?_)
      refine im_gfI (q := 19) D208_16 (im_fl cn_208 fl_11_290) hb6.1 rfl rfl tI_9_6 rfl ?_
      refine im_callS (q := 22) (kd := 0) (y := 167) (n := 1) (z := 11) (vs := [vI (M2 b4 6)]) (r := []) (L2 := [some (vI (M2 b4 6))]) D208_19 rfl (im_cal cn_208 cl_11_187) (Or.inl rfl) rfl rfl rfl rfl rfl hd ⟨rfl, trivial⟩ ?_
      refine hP.mono ?_
      rintro _ e12 M8 (⟨rfl, rfl, hP⟩ | ⟨E_, rfl, hX⟩)
      · refine im_bkN ?_
        refine im_ld (q := 23) (i := 0) D208_22 rfl rfl rfl ?_
        refine im_gfR (q := 26) (b := 29) D208_23 (im_fl cn_208 fl_11_55) sf_0 rfl rfl tR_11_7 rfl ?_
        refine im_ld (q := 27) (i := 1) D208_26 rfl rfl rfl ?_
        obtain ⟨b9, hb10, hP⟩ := hP
        obtain ⟨hb11, hP⟩ := hP
        refine im_aald (q := 28) D208_27 sf_29 (Or.inr rfl) hg3.1 hg3.2 (by decide) hb10 ?_
        exact im_aret (q := 29) D208_28 rfl hP
      · exact im_bkE rfl hX
    · exact im_bkE rfl hX
  · exact im_bkE rfl hX
set_option maxRecDepth 20000 in
set_option maxHeartbeats 4000000 in
theorem k_P_state_0 {g : im_g} {d : Nat} {e : im_E} {M : im_M} {K : im_K} {p1 p2 : Int} (hd : 1 ≤ d) (hP : im_T g (d - 1) 152 0 [some (.ref 0)] [] e M (im_rx (im_r0 (fun  e_ M1 => e = e_ ∧ im_T g (d - 1) 169 0 [some (vI p1), some (vI 16)] [] e M1 (im_rx (im_r0 (fun  e_ M2 => e = e_ ∧ (im_i32 p2) ∧ ((((0 ≤ p2 → ((p2 ≤ 5 → im_T g (d - 1) 168 0 [some (vI 1)] [] e M2 (im_rx (im_r0 (fun  e_ M34 => e = e_ ∧ im_T g (d - 1) 208 0 [some (.ref 0), some (vI p1)] [] e M34 (im_rx (im_rr (fun a36 e_ M35 => e = e_ ∧ im_state e a36 ∧ ((p2 = 0 → K (.inl (some (vL (M35 a36 4)))) e M35) ∧ (p2 = 5 → im_T g (d - 1) 93 0 [some (.ref 0), some (.ref a36)] [] e M35 (im_ri (fun x41 e_ M40 => e = e_ ∧ (im_i32 x41) ∧ ((∀ x44 : Int, (((x41 = 0) ∧ x44 = 0) ∨ ((¬ x41 = 0) ∧ x44 = 1)) → K (.inl (some (vL x44))) e M40))))) ∧ (¬ p2 = 0 ∧ ¬ p2 = 5 → im_T g (d - 1) 211 0 [some (.ref a36), some (vI p2)] [] e M35 (im_rr (fun a51 e_ M50 => e = e_ ∧ ∃ n53 : Nat, im_book e a51 n53 ∧ K (.inl (some (vL (M50 a51 4)))) e M50)))))) (fun E_ e_ M_ => K (.inr E_) e_ M_)))) (fun E_ e_ M_ => K (.inr E_) e_ M_))))))) ∧ ((((p2 < 0)) ∨ ((0 ≤ p2) ∧ (5 < p2))) → im_T g (d - 1) 168 0 [some (vI 0)] [] e M2 (im_rx (im_r0 (fun  e_ M9 => e = e_ ∧ im_T g (d - 1) 208 0 [some (.ref 0), some (vI p1)] [] e M9 (im_rx (im_rr (fun a11 e_ M10 => e = e_ ∧ im_state e a11 ∧ ((p2 = 0 → K (.inl (some (vL (M10 a11 4)))) e M10) ∧ (p2 = 5 → im_T g (d - 1) 93 0 [some (.ref 0), some (.ref a11)] [] e M10 (im_ri (fun x16 e_ M15 => e = e_ ∧ (im_i32 x16) ∧ ((∀ x19 : Int, (((x16 = 0) ∧ x19 = 0) ∨ ((¬ x16 = 0) ∧ x19 = 1)) → K (.inl (some (vL x19))) e M15))))) ∧ (¬ p2 = 0 ∧ ¬ p2 = 5 → im_T g (d - 1) 211 0 [some (.ref a11), some (vI p2)] [] e M10 (im_rr (fun a26 e_ M25 => e = e_ ∧ ∃ n28 : Nat, im_book e a26 n28 ∧ K (.inl (some (vL (M25 a26 4)))) e M25)))))) (fun E_ e_ M_ => K (.inr E_) e_ M_)))) (fun E_ e_ M_ => K (.inr E_) e_ M_)))))) (fun E_ e_ M_ => K (.inr E_) e_ M_)))) (fun E_ e_ M_ => K (.inr E_) e_ M_))) : im_T g d 210 0 [some (.ref 0), some (vI p1), some (vI p2), none] [] e M K := by
  refine im_ld (q := 1) (i := 0) D210_0 rfl rfl rfl ?_
  refine im_callV (q := 4) (kd := 1) (y := 152) (n := 0) (ci := 11) (a := 0) (vs := [.ref 0]) (r := []) (L2 := [some (.ref 0)]) D210_1 (im_cal cn_210 cl_11_124) (Or.inl rfl) rfl sf_0 rfl rfl rfl rfl hd ⟨rfl, trivial⟩ ?_
  refine hP.mono ?_
  rintro _ e60 M1 (⟨rfl, rfl, hP⟩ | ⟨E_, rfl, hX⟩)
  · refine im_bkN ?_
    refine im_ld (q := 5) (i := 1) D210_4 rfl rfl rfl ?_
    refine im_bipush (q := 7) D210_5 rfl ?_
    refine im_callS (q := 10) (kd := 0) (y := 169) (n := 2) (z := 11) (vs := [vI p1, vI 16]) (r := []) (L2 := [some (vI p1), some (vI 16)]) D210_7 rfl (im_cal cn_210 cl_11_183) (Or.inl rfl) rfl rfl rfl rfl rfl hd ⟨rfl, rfl, trivial⟩ ?_
    refine hP.mono ?_
    rintro _ e59 M2 (⟨rfl, rfl, hP⟩ | ⟨E_, rfl, hX⟩)
    · refine im_bkN ?_
      refine im_ld (q := 11) (i := 2) D210_10 rfl rfl rfl ?_
      obtain ⟨hg3, hP⟩ := hP
      obtain ⟨hP, hJ6⟩ := hP
      have kJ7 : (((p2 < 0)) ∨ ((0 ≤ p2) ∧ (5 < p2))) → im_T g d 210 23 [some (.ref 0), some (vI p1), some (vI p2), none] [] e M2 K := by
        intro  hx8
        have hP := hJ6  hx8
        refine im_iconst (q := 24) D210_23 ?_
        refine im_callS (q := 27) (kd := 0) (y := 168) (n := 1) (z := 11) (vs := [vI 0]) (r := []) (L2 := [some (vI 0)]) D210_24 rfl (im_cal cn_210 cl_11_195) (Or.inl rfl) rfl rfl rfl rfl rfl hd ⟨rfl, trivial⟩ ?_
        refine hP.mono ?_
        rintro _ e33 M9 (⟨rfl, rfl, hP⟩ | ⟨E_, rfl, hX⟩)
        · refine im_bkN ?_
          refine im_ld (q := 28) (i := 0) D210_27 rfl rfl rfl ?_
          refine im_ld (q := 29) (i := 1) D210_28 rfl rfl rfl ?_
          refine im_callV (q := 32) (kd := 1) (y := 208) (n := 1) (ci := 11) (a := 0) (vs := [.ref 0, vI p1]) (r := []) (L2 := [some (.ref 0), some (vI p1)]) D210_29 (im_cal cn_210 cl_11_252) (Or.inl rfl) rfl sf_0 rfl rfl rfl rfl hd ⟨rfl, rfl, trivial⟩ ?_
          refine hP.mono ?_
          rintro _ e32 M10 (⟨a11, rfl, rfl, hP⟩ | ⟨E_, rfl, hX⟩)
          · refine im_bkS ?_
            obtain ⟨hb12, hP⟩ := hP
            refine im_stR (q := 33) (i := 3) (L' := [some (.ref 0), some (vI p1), some (vI p2), some (.ref a11)]) D210_32 (Or.inl ⟨_, rfl, rfl⟩) (Nat.le_of_ble_eq_true rfl) rfl ?_
            refine im_ld (q := 34) (i := 2) D210_33 rfl rfl rfl ?_
            by_cases hc14 : p2 = 0
            · refine im_lsw (q := 35) (t := 60) D210_34 hg3 rfl (by rcases hc14 with hc14 <;> (rw [hc14]; rfl)) ?_
              replace hP := hP.1 hc14
              refine im_ld (q := 61) (i := 3) D210_60 rfl rfl rfl ?_
              refine im_rng (j := 4) hb12.1 (by decide) (show (4 : Int) < ((7 : Nat) : Int) by decide) (fun hr13 => ?_)
              refine im_gfL (q := 64) D210_61 (im_fl cn_210 fl_11_259) hb12.1 rfl rfl tL_9_4 rfl ?_
              exact im_lret (q := 65) D210_64 rfl hP
            by_cases hc24 : p2 = 5
            · refine im_lsw (q := 35) (t := 65) D210_34 hg3 rfl (by rcases hc24 with hc24 <;> (rw [hc24]; rfl)) ?_
              replace hP := hP.2.1 hc24
              refine im_ld (q := 66) (i := 0) D210_65 rfl rfl rfl ?_
              refine im_ld (q := 67) (i := 3) D210_66 rfl rfl rfl ?_
              refine im_callV (q := 70) (kd := 1) (y := 93) (n := 1) (ci := 11) (a := 0) (vs := [.ref 0, .ref a11]) (r := []) (L2 := [some (.ref 0), some (.ref a11)]) D210_67 (im_cal cn_210 cl_11_263) (Or.inl rfl) rfl sf_0 rfl rfl rfl rfl hd ⟨rfl, rfl, trivial⟩ ?_
              refine hP.mono ?_
              rintro _ e23 M15 ⟨x16, rfl, rfl, hP⟩
              refine im_bkS ?_
              obtain ⟨hg17, hP⟩ := hP
              have hJ20 := hP
              have kJ21 : ∀ x19 : Int, (((x16 = 0) ∧ x19 = 0) ∨ ((¬ x16 = 0) ∧ x19 = 1)) → im_T g d 210 78 [none, none, none, none] [vL x19] e M15 K := by
                intro x19 hx22
                have hP := hJ20 x19 hx22
                exact im_lret (q := 79) D210_78 rfl hP
              refine im_ifc (q := 73) (t := 77) D210_70 rfl hg17 (fun hc18 => ?_) (fun hc18 => ?_)
              · refine im_lconst (q := 78) (z := 0) D210_77 rfl ?_
                exact (kJ21 (0) (Or.inl ⟨hc18, rfl⟩)).wk trivial
              · refine im_lconst (q := 74) (z := 1) D210_73 rfl ?_
                refine im_goto (q := 77) (t := 78) D210_74 rfl ?_
                exact (kJ21 (1) (Or.inr ⟨hc18, rfl⟩)).wk trivial
            have hd31 : ¬ p2 = 0 ∧ ¬ p2 = 5 := by clear hP; omega
            refine im_lsw (q := 35) (t := 79) D210_34 hg3 rfl (by have z9 := hd31; simp [Op.lookupswitch.offset, am_to, z9, eq_comm]) ?_
            replace hP := hP.2.2 hd31
            refine im_ld (q := 80) (i := 3) D210_79 rfl rfl rfl ?_
            refine im_ld (q := 81) (i := 2) D210_80 rfl rfl rfl ?_
            refine im_callV (q := 84) (kd := 1) (y := 211) (n := 1) (ci := 9) (a := a11) (vs := [.ref a11, vI p2]) (r := []) (L2 := [some (.ref a11), some (vI p2)]) D210_81 (im_cal cn_210 cl_11_267) (Or.inl rfl) rfl hb12.1 rfl rfl rfl rfl hd ⟨rfl, rfl, trivial⟩ ?_
            refine hP.mono ?_
            rintro _ e30 M25 ⟨a26, rfl, rfl, hP⟩
            refine im_bkS ?_
            obtain ⟨n28, hb27, hP⟩ := hP
            refine im_rng (j := 4) hb27.1 (by decide) (show (4 : Int) < ((5 : Nat) : Int) by decide) (fun hr29 => ?_)
            refine im_gfI (q := 87) D210_84 (im_fl cn_210 fl_11_271) hb27.1 rfl rfl tI_0_4 rfl ?_
            refine im_i2l (q := 88) D210_87 hr29 ?_
            exact im_lret (q := 89) D210_88 rfl hP
          · exact im_bkE rfl hX
        · exact im_bkE rfl hX
      refine im_ifc (q := 14) (t := 23) D210_11 rfl hg3 (fun hc4 => ?_) (fun hc4 => ?_)
      · exact (kJ7  (Or.inl hc4)).wk ⟨rfl, rfl, rfl, trivial⟩
      · replace hP := hP (Int.not_lt.mp hc4)
        refine im_ld (q := 15) (i := 2) D210_14 rfl rfl rfl ?_
        refine im_iconst (q := 16) D210_15 ?_
        refine im_icmp (q := 19) (t := 23) D210_16 rfl hg3 (by decide) (fun hc5 => ?_) (fun hc5 => ?_)
        · exact (kJ7  (Or.inr ⟨(Int.not_lt.mp hc4), hc5⟩)).wk ⟨rfl, rfl, rfl, trivial⟩
        · replace hP := hP (Int.not_lt.mp hc5)
          refine im_iconst (q := 20) D210_19 ?_
          refine im_goto (q := 23) (t := 24) D210_20 rfl ?_
          refine im_callS (q := 27) (kd := 0) (y := 168) (n := 1) (z := 11) (vs := [vI 1]) (r := []) (L2 := [some (vI 1)]) D210_24 rfl (im_cal cn_210 cl_11_195) (Or.inl rfl) rfl rfl rfl rfl rfl hd ⟨rfl, trivial⟩ ?_
          refine hP.mono ?_
          rintro _ e58 M34 (⟨rfl, rfl, hP⟩ | ⟨E_, rfl, hX⟩)
          · refine im_bkN ?_
            refine im_ld (q := 28) (i := 0) D210_27 rfl rfl rfl ?_
            refine im_ld (q := 29) (i := 1) D210_28 rfl rfl rfl ?_
            refine im_callV (q := 32) (kd := 1) (y := 208) (n := 1) (ci := 11) (a := 0) (vs := [.ref 0, vI p1]) (r := []) (L2 := [some (.ref 0), some (vI p1)]) D210_29 (im_cal cn_210 cl_11_252) (Or.inl rfl) rfl sf_0 rfl rfl rfl rfl hd ⟨rfl, rfl, trivial⟩ ?_
            refine hP.mono ?_
            rintro _ e57 M35 (⟨a36, rfl, rfl, hP⟩ | ⟨E_, rfl, hX⟩)
            · refine im_bkS ?_
              obtain ⟨hb37, hP⟩ := hP
              refine im_stR (q := 33) (i := 3) (L' := [some (.ref 0), some (vI p1), some (vI p2), some (.ref a36)]) D210_32 (Or.inl ⟨_, rfl, rfl⟩) (Nat.le_of_ble_eq_true rfl) rfl ?_
              refine im_ld (q := 34) (i := 2) D210_33 rfl rfl rfl ?_
              by_cases hc39 : p2 = 0
              · refine im_lsw (q := 35) (t := 60) D210_34 hg3 rfl (by rcases hc39 with hc39 <;> (rw [hc39]; rfl)) ?_
                replace hP := hP.1 hc39
                refine im_ld (q := 61) (i := 3) D210_60 rfl rfl rfl ?_
                refine im_rng (j := 4) hb37.1 (by decide) (show (4 : Int) < ((7 : Nat) : Int) by decide) (fun hr38 => ?_)
                refine im_gfL (q := 64) D210_61 (im_fl cn_210 fl_11_259) hb37.1 rfl rfl tL_9_4 rfl ?_
                exact im_lret (q := 65) D210_64 rfl hP
              by_cases hc49 : p2 = 5
              · refine im_lsw (q := 35) (t := 65) D210_34 hg3 rfl (by rcases hc49 with hc49 <;> (rw [hc49]; rfl)) ?_
                replace hP := hP.2.1 hc49
                refine im_ld (q := 66) (i := 0) D210_65 rfl rfl rfl ?_
                refine im_ld (q := 67) (i := 3) D210_66 rfl rfl rfl ?_
                refine im_callV (q := 70) (kd := 1) (y := 93) (n := 1) (ci := 11) (a := 0) (vs := [.ref 0, .ref a36]) (r := []) (L2 := [some (.ref 0), some (.ref a36)]) D210_67 (im_cal cn_210 cl_11_263) (Or.inl rfl) rfl sf_0 rfl rfl rfl rfl hd ⟨rfl, rfl, trivial⟩ ?_
                refine hP.mono ?_
                rintro _ e48 M40 ⟨x41, rfl, rfl, hP⟩
                refine im_bkS ?_
                obtain ⟨hg42, hP⟩ := hP
                have hJ45 := hP
                have kJ46 : ∀ x44 : Int, (((x41 = 0) ∧ x44 = 0) ∨ ((¬ x41 = 0) ∧ x44 = 1)) → im_T g d 210 78 [none, none, none, none] [vL x44] e M40 K := by
                  intro x44 hx47
                  have hP := hJ45 x44 hx47
                  exact im_lret (q := 79) D210_78 rfl hP
                refine im_ifc (q := 73) (t := 77) D210_70 rfl hg42 (fun hc43 => ?_) (fun hc43 => ?_)
                · refine im_lconst (q := 78) (z := 0) D210_77 rfl ?_
                  exact (kJ46 (0) (Or.inl ⟨hc43, rfl⟩)).wk trivial
                · refine im_lconst (q := 74) (z := 1) D210_73 rfl ?_
                  refine im_goto (q := 77) (t := 78) D210_74 rfl ?_
                  exact (kJ46 (1) (Or.inr ⟨hc43, rfl⟩)).wk trivial
              have hd56 : ¬ p2 = 0 ∧ ¬ p2 = 5 := by clear hP; omega
              refine im_lsw (q := 35) (t := 79) D210_34 hg3 rfl (by have z9 := hd56; simp [Op.lookupswitch.offset, am_to, z9, eq_comm]) ?_
              replace hP := hP.2.2 hd56
              refine im_ld (q := 80) (i := 3) D210_79 rfl rfl rfl ?_
              refine im_ld (q := 81) (i := 2) D210_80 rfl rfl rfl ?_
              refine im_callV (q := 84) (kd := 1) (y := 211) (n := 1) (ci := 9) (a := a36) (vs := [.ref a36, vI p2]) (r := []) (L2 := [some (.ref a36), some (vI p2)]) D210_81 (im_cal cn_210 cl_11_267) (Or.inl rfl) rfl hb37.1 rfl rfl rfl rfl hd ⟨rfl, rfl, trivial⟩ ?_
              refine hP.mono ?_
              rintro _ e55 M50 ⟨a51, rfl, rfl, hP⟩
              refine im_bkS ?_
              obtain ⟨n53, hb52, hP⟩ := hP
              refine im_rng (j := 4) hb52.1 (by decide) (show (4 : Int) < ((5 : Nat) : Int) by decide) (fun hr54 => ?_)
              refine im_gfI (q := 87) D210_84 (im_fl cn_210 fl_11_271) hb52.1 rfl rfl tI_0_4 rfl ?_
              refine im_i2l (q := 88) D210_87 hr54 ?_
              exact im_lret (q := 89) D210_88 rfl hP
            · exact im_bkE rfl hX
          · exact im_bkE rfl hX
    · exact im_bkE rfl hX
  · exact im_bkE rfl hX
set_option maxRecDepth 20000 in
set_option maxHeartbeats 4000000 in
theorem k_State_book_0 {g : im_g} {d : Nat} {e : im_E} {M : im_M} {K : im_K} {p1 : Int} {a0 : Nat} (ha0 : im_state e a0) (hP : (im_i32 p1) ∧ ((p1 = 1 → K (.inl (some (.ref (a0 + 1)))) e M) ∧ (p1 = 2 → K (.inl (some (.ref (a0 + 87)))) e M) ∧ (p1 = 3 → K (.inl (some (.ref (a0 + 173)))) e M) ∧ (p1 < 1 ∨ 3 < p1 → ∃ n5 : Nat, (im_book e (a0 + 259) n5) ∧ K (.inl (some (.ref (a0 + 259)))) e M))) : im_T g d 211 0 [some (.ref a0), some (vI p1)] [] e M K := by
  refine im_ld (q := 1) (i := 1) D211_0 rfl rfl rfl ?_
  obtain ⟨hg1, hP⟩ := hP
  by_cases hc2 : p1 = 1
  · refine im_tsw (q := 2) (t := 28) D211_1 hg1 (fun _ => by rcases hc2 with hc2 <;> (rw [hc2]; rfl)) (by rcases hc2 with hc2 <;> (rw [hc2]; rfl)) ?_
    replace hP := hP.1 hc2
    refine im_ld (q := 29) (i := 0) D211_28 rfl rfl rfl ?_
    refine im_gfR (q := 32) (b := (a0 + 1)) D211_29 (im_fl cn_211 fl_9_14) ha0.1 rfl rfl tR_9_0 rfl ?_
    exact im_aret (q := 33) D211_32 rfl hP
  by_cases hc3 : p1 = 2
  · refine im_tsw (q := 2) (t := 33) D211_1 hg1 (fun _ => by rcases hc3 with hc3 <;> (rw [hc3]; rfl)) (by rcases hc3 with hc3 <;> (rw [hc3]; rfl)) ?_
    replace hP := hP.2.1 hc3
    refine im_ld (q := 34) (i := 0) D211_33 rfl rfl rfl ?_
    refine im_gfR (q := 37) (b := (a0 + 87)) D211_34 (im_fl cn_211 fl_9_20) ha0.1 rfl rfl tR_9_1 rfl ?_
    exact im_aret (q := 38) D211_37 rfl hP
  by_cases hc4 : p1 = 3
  · refine im_tsw (q := 2) (t := 38) D211_1 hg1 (fun _ => by rcases hc4 with hc4 <;> (rw [hc4]; rfl)) (by rcases hc4 with hc4 <;> (rw [hc4]; rfl)) ?_
    replace hP := hP.2.2.1 hc4
    refine im_ld (q := 39) (i := 0) D211_38 rfl rfl rfl ?_
    refine im_gfR (q := 42) (b := (a0 + 173)) D211_39 (im_fl cn_211 fl_9_23) ha0.1 rfl rfl tR_9_2 rfl ?_
    exact im_aret (q := 43) D211_42 rfl hP
  have hd7 : p1 < 1 ∨ 3 < p1 := by clear hP; omega
  refine im_tsw (q := 2) (t := 43) D211_1 hg1 (fun z9 => absurd hd7 z9) (by rw [if_pos hd7]; rfl) ?_
  replace hP := hP.2.2.2 hd7
  refine im_ld (q := 44) (i := 0) D211_43 rfl rfl rfl ?_
  obtain ⟨n5, hb6, hP⟩ := hP
  refine im_gfR (q := 47) (b := (a0 + 259)) D211_44 (im_fl cn_211 fl_9_26) ha0.1 rfl rfl tR_9_3 rfl ?_
  exact im_aret (q := 48) D211_47 rfl hP
set_option maxRecDepth 20000 in
set_option maxHeartbeats 4000000 in
theorem k_P_entry_0 {g : im_g} {d : Nat} {e : im_E} {M : im_M} {K : im_K} {p1 p2 p3 : Int} (hd : 1 ≤ d) (hP : im_T g (d - 1) 214 0 [some (.ref 0), some (vI p1), some (vI p2), some (vI p3), none] [] e M (im_rx (im_rr (fun a2 e_ M1 => e = e_ ∧ ∃ n4 : Nat, im_book e a2 n4 ∧ (0 ≤ p3 ∧ p3 < n4) ∧ ∃ b6 : Nat, ((M1 (a2 + 5) p3) = (b6 : Int)) ∧ (im_num e b6) ∧ im_T g (d - 1) 215 0 [some (.ref 0), some (.ref b6)] [] e M1 (im_ri (fun x10 e_ M9 => e = e_ ∧ K (.inl (some (vI x10))) e M9)))) (fun E_ e_ M_ => K (.inr E_) e_ M_))) : im_T g d 213 0 [some (.ref 0), some (vI p1), some (vI p2), some (vI p3), none] [] e M K := by
  refine im_ld (q := 1) (i := 0) D213_0 rfl rfl rfl ?_
  refine im_ld (q := 2) (i := 1) D213_1 rfl rfl rfl ?_
  refine im_ld (q := 3) (i := 2) D213_2 rfl rfl rfl ?_
  refine im_ld (q := 4) (i := 3) D213_3 rfl rfl rfl ?_
  refine im_callV (q := 7) (kd := 1) (y := 214) (n := 3) (ci := 11) (a := 0) (vs := [.ref 0, vI p1, vI p2, vI p3]) (r := []) (L2 := [some (.ref 0), some (vI p1), some (vI p2), some (vI p3), none]) D213_4 (im_cal cn_213 cl_11_272) (Or.inl rfl) rfl sf_0 rfl rfl rfl rfl hd ⟨rfl, rfl, rfl, rfl, trivial⟩ ?_
  refine hP.mono ?_
  rintro _ e12 M1 (⟨a2, rfl, rfl, hP⟩ | ⟨E_, rfl, hX⟩)
  · refine im_bkS ?_
    obtain ⟨n4, hb3, hP⟩ := hP
    refine im_stR (q := 9) (i := 4) (L' := [some (.ref 0), some (vI p1), some (vI p2), some (vI p3), some (.ref a2)]) D213_7 (Or.inr rfl) (Nat.le_of_ble_eq_true rfl) rfl ?_
    refine im_ld (q := 10) (i := 0) D213_9 rfl rfl rfl ?_
    refine im_ld (q := 12) (i := 4) D213_10 rfl rfl rfl ?_
    refine im_gfR (q := 15) (b := (a2 + 5)) D213_12 (im_fl cn_213 fl_11_276) hb3.1 rfl rfl tR_0_2 rfl ?_
    refine im_ld (q := 16) (i := 3) D213_15 rfl rfl rfl ?_
    obtain ⟨hg5, hP⟩ := hP
    obtain ⟨b6, hb7, hP⟩ := hP
    obtain ⟨hb8, hP⟩ := hP
    refine im_aald (q := 17) D213_16 hb3.2.2.2.1 (Or.inl rfl) hg5.1 hg5.2 (Nat.le_trans hb3.2.2.2.2.2 (by decide)) hb7 ?_
    refine im_callV (q := 20) (kd := 1) (y := 215) (n := 1) (ci := 11) (a := 0) (vs := [.ref 0, .ref b6]) (r := []) (L2 := [some (.ref 0), some (.ref b6)]) D213_17 (im_cal cn_213 cl_11_280) (Or.inl rfl) rfl sf_0 rfl rfl rfl rfl hd ⟨rfl, rfl, trivial⟩ ?_
    refine hP.mono ?_
    rintro _ e11 M9 ⟨x10, rfl, rfl, hP⟩
    refine im_bkS ?_
    exact im_iret (q := 21) D213_20 rfl hP
  · exact im_bkE rfl hX
set_option maxRecDepth 20000 in
set_option maxHeartbeats 4000000 in
theorem k_P_bookWith_0 {g : im_g} {d : Nat} {e : im_E} {M : im_M} {K : im_K} {p1 p2 p3 : Int} (hd : 1 ≤ d) (hP : im_T g (d - 1) 152 0 [some (.ref 0)] [] e M (im_rx (im_r0 (fun  e_ M1 => e = e_ ∧ im_T g (d - 1) 169 0 [some (vI p1), some (vI 16)] [] e M1 (im_rx (im_r0 (fun  e_ M2 => e = e_ ∧ (im_i32 p2) ∧ ((((1 ≤ p2 → ((p2 ≤ 4 → im_T g (d - 1) 168 0 [some (vI 1)] [] e M2 (im_rx (im_r0 (fun  e_ M23 => e = e_ ∧ im_T g (d - 1) 208 0 [some (.ref 0), some (vI p1)] [] e M23 (im_rx (im_rr (fun a25 e_ M24 => e = e_ ∧ im_state e a25 ∧ im_T g (d - 1) 211 0 [some (.ref a25), some (vI p2)] [] e M24 (im_rr (fun a28 e_ M27 => e = e_ ∧ ∃ n30 : Nat, im_book e a28 n30 ∧ im_T g (d - 1) 169 0 [some (vI p3), some (vI (M27 a28 4))] [] e M27 (im_rx (im_r0 (fun  e_ M32 => e = e_ ∧ K (.inl (some (.ref a28))) e M32)) (fun E_ e_ M_ => K (.inr E_) e_ M_)))))) (fun E_ e_ M_ => K (.inr E_) e_ M_)))) (fun E_ e_ M_ => K (.inr E_) e_ M_))))))) ∧ ((((p2 < 1)) ∨ ((1 ≤ p2) ∧ (4 < p2))) → im_T g (d - 1) 168 0 [some (vI 0)] [] e M2 (im_rx (im_r0 (fun  e_ M9 => e = e_ ∧ im_T g (d - 1) 208 0 [some (.ref 0), some (vI p1)] [] e M9 (im_rx (im_rr (fun a11 e_ M10 => e = e_ ∧ im_state e a11 ∧ im_T g (d - 1) 211 0 [some (.ref a11), some (vI p2)] [] e M10 (im_rr (fun a14 e_ M13 => e = e_ ∧ ∃ n16 : Nat, im_book e a14 n16 ∧ im_T g (d - 1) 169 0 [some (vI p3), some (vI (M13 a14 4))] [] e M13 (im_rx (im_r0 (fun  e_ M18 => e = e_ ∧ K (.inl (some (.ref a14))) e M18)) (fun E_ e_ M_ => K (.inr E_) e_ M_)))))) (fun E_ e_ M_ => K (.inr E_) e_ M_)))) (fun E_ e_ M_ => K (.inr E_) e_ M_)))))) (fun E_ e_ M_ => K (.inr E_) e_ M_)))) (fun E_ e_ M_ => K (.inr E_) e_ M_))) : im_T g d 214 0 [some (.ref 0), some (vI p1), some (vI p2), some (vI p3), none] [] e M K := by
  refine im_ld (q := 1) (i := 0) D214_0 rfl rfl rfl ?_
  refine im_callV (q := 4) (kd := 1) (y := 152) (n := 0) (ci := 11) (a := 0) (vs := [.ref 0]) (r := []) (L2 := [some (.ref 0)]) D214_1 (im_cal cn_214 cl_11_124) (Or.inl rfl) rfl sf_0 rfl rfl rfl rfl hd ⟨rfl, trivial⟩ ?_
  refine hP.mono ?_
  rintro _ e38 M1 (⟨rfl, rfl, hP⟩ | ⟨E_, rfl, hX⟩)
  · refine im_bkN ?_
    refine im_ld (q := 5) (i := 1) D214_4 rfl rfl rfl ?_
    refine im_bipush (q := 7) D214_5 rfl ?_
    refine im_callS (q := 10) (kd := 0) (y := 169) (n := 2) (z := 11) (vs := [vI p1, vI 16]) (r := []) (L2 := [some (vI p1), some (vI 16)]) D214_7 rfl (im_cal cn_214 cl_11_183) (Or.inl rfl) rfl rfl rfl rfl rfl hd ⟨rfl, rfl, trivial⟩ ?_
    refine hP.mono ?_
    rintro _ e37 M2 (⟨rfl, rfl, hP⟩ | ⟨E_, rfl, hX⟩)
    · refine im_bkN ?_
      refine im_ld (q := 11) (i := 2) D214_10 rfl rfl rfl ?_
      refine im_iconst (q := 12) D214_11 ?_
      obtain ⟨hg3, hP⟩ := hP
      obtain ⟨hP, hJ6⟩ := hP
      have kJ7 : (((p2 < 1)) ∨ ((1 ≤ p2) ∧ (4 < p2))) → im_T g d 214 24 [some (.ref 0), some (vI p1), some (vI p2), some (vI p3), none] [] e M2 K := by
        intro  hx8
        have hP := hJ6  hx8
        refine im_iconst (q := 25) D214_24 ?_
        refine im_callS (q := 28) (kd := 0) (y := 168) (n := 1) (z := 11) (vs := [vI 0]) (r := []) (L2 := [some (vI 0)]) D214_25 rfl (im_cal cn_214 cl_11_195) (Or.inl rfl) rfl rfl rfl rfl rfl hd ⟨rfl, trivial⟩ ?_
        refine hP.mono ?_
        rintro _ e22 M9 (⟨rfl, rfl, hP⟩ | ⟨E_, rfl, hX⟩)
        · refine im_bkN ?_
          refine im_ld (q := 29) (i := 0) D214_28 rfl rfl rfl ?_
          refine im_ld (q := 30) (i := 1) D214_29 rfl rfl rfl ?_
          refine im_callV (q := 33) (kd := 1) (y := 208) (n := 1) (ci := 11) (a := 0) (vs := [.ref 0, vI p1]) (r := []) (L2 := [some (.ref 0), some (vI p1)]) D214_30 (im_cal cn_214 cl_11_252) (Or.inl rfl) rfl sf_0 rfl rfl rfl rfl hd ⟨rfl, rfl, trivial⟩ ?_
          refine hP.mono ?_
          rintro _ e21 M10 (⟨a11, rfl, rfl, hP⟩ | ⟨E_, rfl, hX⟩)
          · refine im_bkS ?_
            obtain ⟨hb12, hP⟩ := hP
            refine im_ld (q := 34) (i := 2) D214_33 rfl rfl rfl ?_
            refine im_callV (q := 37) (kd := 1) (y := 211) (n := 1) (ci := 9) (a := a11) (vs := [.ref a11, vI p2]) (r := []) (L2 := [some (.ref a11), some (vI p2)]) D214_34 (im_cal cn_214 cl_11_267) (Or.inl rfl) rfl hb12.1 rfl rfl rfl rfl hd ⟨rfl, rfl, trivial⟩ ?_
            refine hP.mono ?_
            rintro _ e20 M13 ⟨a14, rfl, rfl, hP⟩
            refine im_bkS ?_
            obtain ⟨n16, hb15, hP⟩ := hP
            refine im_stR (q := 39) (i := 4) (L' := [some (.ref 0), some (vI p1), some (vI p2), some (vI p3), some (.ref a14)]) D214_37 (Or.inr rfl) (Nat.le_of_ble_eq_true rfl) rfl ?_
            refine im_ld (q := 40) (i := 3) D214_39 rfl rfl rfl ?_
            refine im_ld (q := 42) (i := 4) D214_40 rfl rfl rfl ?_
            refine im_rng (j := 4) hb15.1 (by decide) (show (4 : Int) < ((5 : Nat) : Int) by decide) (fun hr17 => ?_)
            refine im_gfI (q := 45) D214_42 (im_fl cn_214 fl_11_271) hb15.1 rfl rfl tI_0_4 rfl ?_
            refine im_callS (q := 48) (kd := 0) (y := 169) (n := 2) (z := 11) (vs := [vI p3, vI (M13 a14 4)]) (r := []) (L2 := [some (vI p3), some (vI (M13 a14 4))]) D214_45 rfl (im_cal cn_214 cl_11_183) (Or.inl rfl) rfl rfl rfl rfl rfl hd ⟨rfl, rfl, trivial⟩ ?_
            refine hP.mono ?_
            rintro _ e19 M18 (⟨rfl, rfl, hP⟩ | ⟨E_, rfl, hX⟩)
            · refine im_bkN ?_
              refine im_ld (q := 50) (i := 4) D214_48 rfl rfl rfl ?_
              exact im_aret (q := 51) D214_50 rfl hP
            · exact im_bkE rfl hX
          · exact im_bkE rfl hX
        · exact im_bkE rfl hX
      refine im_icmp (q := 15) (t := 24) D214_12 rfl hg3 (by decide) (fun hc4 => ?_) (fun hc4 => ?_)
      · exact (kJ7  (Or.inl hc4)).wk ⟨rfl, rfl, rfl, rfl, trivial⟩
      · replace hP := hP (Int.not_lt.mp hc4)
        refine im_ld (q := 16) (i := 2) D214_15 rfl rfl rfl ?_
        refine im_iconst (q := 17) D214_16 ?_
        refine im_icmp (q := 20) (t := 24) D214_17 rfl hg3 (by decide) (fun hc5 => ?_) (fun hc5 => ?_)
        · exact (kJ7  (Or.inr ⟨(Int.not_lt.mp hc4), hc5⟩)).wk ⟨rfl, rfl, rfl, rfl, trivial⟩
        · replace hP := hP (Int.not_lt.mp hc5)
          refine im_iconst (q := 21) D214_20 ?_
          refine im_goto (q := 24) (t := 25) D214_21 rfl ?_
          refine im_callS (q := 28) (kd := 0) (y := 168) (n := 1) (z := 11) (vs := [vI 1]) (r := []) (L2 := [some (vI 1)]) D214_25 rfl (im_cal cn_214 cl_11_195) (Or.inl rfl) rfl rfl rfl rfl rfl hd ⟨rfl, trivial⟩ ?_
          refine hP.mono ?_
          rintro _ e36 M23 (⟨rfl, rfl, hP⟩ | ⟨E_, rfl, hX⟩)
          · refine im_bkN ?_
            refine im_ld (q := 29) (i := 0) D214_28 rfl rfl rfl ?_
            refine im_ld (q := 30) (i := 1) D214_29 rfl rfl rfl ?_
            refine im_callV (q := 33) (kd := 1) (y := 208) (n := 1) (ci := 11) (a := 0) (vs := [.ref 0, vI p1]) (r := []) (L2 := [some (.ref 0), some (vI p1)]) D214_30 (im_cal cn_214 cl_11_252) (Or.inl rfl) rfl sf_0 rfl rfl rfl rfl hd ⟨rfl, rfl, trivial⟩ ?_
            refine hP.mono ?_
            rintro _ e35 M24 (⟨a25, rfl, rfl, hP⟩ | ⟨E_, rfl, hX⟩)
            · refine im_bkS ?_
              obtain ⟨hb26, hP⟩ := hP
              refine im_ld (q := 34) (i := 2) D214_33 rfl rfl rfl ?_
              refine im_callV (q := 37) (kd := 1) (y := 211) (n := 1) (ci := 9) (a := a25) (vs := [.ref a25, vI p2]) (r := []) (L2 := [some (.ref a25), some (vI p2)]) D214_34 (im_cal cn_214 cl_11_267) (Or.inl rfl) rfl hb26.1 rfl rfl rfl rfl hd ⟨rfl, rfl, trivial⟩ ?_
              refine hP.mono ?_
              rintro _ e34 M27 ⟨a28, rfl, rfl, hP⟩
              refine im_bkS ?_
              obtain ⟨n30, hb29, hP⟩ := hP
              refine im_stR (q := 39) (i := 4) (L' := [some (.ref 0), some (vI p1), some (vI p2), some (vI p3), some (.ref a28)]) D214_37 (Or.inr rfl) (Nat.le_of_ble_eq_true rfl) rfl ?_
              refine im_ld (q := 40) (i := 3) D214_39 rfl rfl rfl ?_
              refine im_ld (q := 42) (i := 4) D214_40 rfl rfl rfl ?_
              refine im_rng (j := 4) hb29.1 (by decide) (show (4 : Int) < ((5 : Nat) : Int) by decide) (fun hr31 => ?_)
              refine im_gfI (q := 45) D214_42 (im_fl cn_214 fl_11_271) hb29.1 rfl rfl tI_0_4 rfl ?_
              refine im_callS (q := 48) (kd := 0) (y := 169) (n := 2) (z := 11) (vs := [vI p3, vI (M27 a28 4)]) (r := []) (L2 := [some (vI p3), some (vI (M27 a28 4))]) D214_45 rfl (im_cal cn_214 cl_11_183) (Or.inl rfl) rfl rfl rfl rfl rfl hd ⟨rfl, rfl, trivial⟩ ?_
              refine hP.mono ?_
              rintro _ e33 M32 (⟨rfl, rfl, hP⟩ | ⟨E_, rfl, hX⟩)
              · refine im_bkN ?_
                refine im_ld (q := 50) (i := 4) D214_48 rfl rfl rfl ?_
                exact im_aret (q := 51) D214_50 rfl hP
              · exact im_bkE rfl hX
            · exact im_bkE rfl hX
          · exact im_bkE rfl hX
    · exact im_bkE rfl hX
  · exact im_bkE rfl hX
set_option maxRecDepth 20000 in
set_option maxHeartbeats 4000000 in
theorem k_P_tell_0 {g : im_g} {d : Nat} {e : im_E} {M : im_M} {K : im_K} {p1 : Nat} (hp1 : im_num e p1) (hd : 1 ≤ d) (hP : im_T g (d - 1) 22 0 [some (.ref 7)] [] e M (im_r0 (fun  e_ M1 => e = e_ ∧ im_T g (d - 1) 177 0 [some (.ref 7), some (.ref p1), none, none, none, none] [] e M1 (im_r0 (fun  e_ M2 => e = e_ ∧ K (.inl (some (vI (M2 7 1)))) e M2))))) : im_T g d 215 0 [some (.ref 0), some (.ref p1)] [] e M K := by
  refine im_ld (q := 1) (i := 0) D215_0 rfl rfl rfl ?_
  refine im_gfR (q := 4) (b := 7) D215_1 (im_fl cn_215 fl_11_29) sf_0 rfl rfl tR_11_3 rfl ?_
  refine im_callV (q := 7) (kd := 1) (y := 22) (n := 0) (ci := 10) (a := 7) (vs := [.ref 7]) (r := []) (L2 := [some (.ref 7)]) D215_4 (im_cal cn_215 cl_11_155) (Or.inl rfl) rfl sf_7 rfl rfl rfl rfl hd ⟨rfl, trivial⟩ ?_
  refine hP.mono ?_
  rintro _ e5 M1 ⟨rfl, rfl, hP⟩
  refine im_bkN ?_
  refine im_ld (q := 8) (i := 0) D215_7 rfl rfl rfl ?_
  refine im_gfR (q := 11) (b := 7) D215_8 (im_fl cn_215 fl_11_29) sf_0 rfl rfl tR_11_3 rfl ?_
  refine im_ld (q := 12) (i := 1) D215_11 rfl rfl rfl ?_
  refine im_callV (q := 15) (kd := 1) (y := 177) (n := 1) (ci := 10) (a := 7) (vs := [.ref 7, .ref p1]) (r := []) (L2 := [some (.ref 7), some (.ref p1), none, none, none, none]) D215_12 (im_cal cn_215 cl_11_461) (Or.inl rfl) rfl sf_7 rfl rfl rfl rfl hd ⟨rfl, rfl, trivial⟩ ?_
  refine hP.mono ?_
  rintro _ e4 M2 ⟨rfl, rfl, hP⟩
  refine im_bkN ?_
  refine im_ld (q := 16) (i := 0) D215_15 rfl rfl rfl ?_
  refine im_gfR (q := 19) (b := 7) D215_16 (im_fl cn_215 fl_11_29) sf_0 rfl rfl tR_11_3 rfl ?_
  refine im_rng (j := 1) sf_7 (by decide) (by decide) (fun hr3 => ?_)
  refine im_gfI (q := 22) D215_19 (im_fl cn_215 fl_11_149) sf_7 rfl rfl tI_10_1 rfl ?_
  exact im_iret (q := 23) D215_22 rfl hP
set_option maxRecDepth 20000 in
set_option maxHeartbeats 4000000 in
theorem k_P_name_0 {g : im_g} {d : Nat} {e : im_E} {M : im_M} {K : im_K} {p1 p2 p3 p4 : Int} (hd : 1 ≤ d) (hP : im_T g (d - 1) 214 0 [some (.ref 0), some (vI p1), some (vI p2), some (vI p3), none] [] e M (im_rx (im_rr (fun a2 e_ M1 => e = e_ ∧ ∃ n4 : Nat, im_book e a2 n4 ∧ (im_i32 p4) ∧ ((((p4 = 0 → (0 ≤ p3 ∧ p3 < n4)) ∧ (¬ p4 = 0 → (0 ≤ p3 ∧ p3 < n4)))) ∧ (∀ x11 : Int, (((p4 = 0) ∧ x11 = (M1 (a2 + 3) p3)) ∨ ((¬ p4 = 0) ∧ x11 = (M1 (a2 + 4) p3))) → K (.inl (some (vL x11))) e M1)))) (fun E_ e_ M_ => K (.inr E_) e_ M_))) : im_T g d 217 0 [some (.ref 0), some (vI p1), some (vI p2), some (vI p3), some (vI p4), none] [] e M K := by
  refine im_ld (q := 1) (i := 0) D217_0 rfl rfl rfl ?_
  refine im_ld (q := 2) (i := 1) D217_1 rfl rfl rfl ?_
  refine im_ld (q := 3) (i := 2) D217_2 rfl rfl rfl ?_
  refine im_ld (q := 4) (i := 3) D217_3 rfl rfl rfl ?_
  refine im_callV (q := 7) (kd := 1) (y := 214) (n := 3) (ci := 11) (a := 0) (vs := [.ref 0, vI p1, vI p2, vI p3]) (r := []) (L2 := [some (.ref 0), some (vI p1), some (vI p2), some (vI p3), none]) D217_4 (im_cal cn_217 cl_11_272) (Or.inl rfl) rfl sf_0 rfl rfl rfl rfl hd ⟨rfl, rfl, rfl, rfl, trivial⟩ ?_
  refine hP.mono ?_
  rintro _ e15 M1 (⟨a2, rfl, rfl, hP⟩ | ⟨E_, rfl, hX⟩)
  · refine im_bkS ?_
    obtain ⟨n4, hb3, hP⟩ := hP
    refine im_stR (q := 9) (i := 5) (L' := [some (.ref 0), some (vI p1), some (vI p2), some (vI p3), some (vI p4), some (.ref a2)]) D217_7 (Or.inr rfl) (Nat.le_of_ble_eq_true rfl) rfl ?_
    refine im_ld (q := 11) (i := 4) D217_9 rfl rfl rfl ?_
    obtain ⟨hg5, hP⟩ := hP
    obtain ⟨hP, hJ12⟩ := hP
    have kJ13 : ∀ x11 : Int, (((p4 = 0) ∧ x11 = (M1 (a2 + 3) p3)) ∨ ((¬ p4 = 0) ∧ x11 = (M1 (a2 + 4) p3))) → im_T g d 217 31 [none, none, none, none, none, none] [vL x11] e M1 K := by
      intro x11 hx14
      have hP := hJ12 x11 hx14
      exact im_lret (q := 32) D217_31 rfl hP
    refine im_ifc (q := 14) (t := 24) D217_11 rfl hg5 (fun hc6 => ?_) (fun hc6 => ?_)
    · replace hP := hP.1 hc6
      refine im_ld (q := 26) (i := 5) D217_24 rfl rfl rfl ?_
      refine im_gfR (q := 29) (b := (a2 + 3)) D217_26 (im_fl cn_217 fl_11_287) hb3.1 rfl rfl tR_0_0 rfl ?_
      refine im_ld (q := 30) (i := 3) D217_29 rfl rfl rfl ?_
      have hg7 := hP
      refine im_rng (j := p3) hb3.2.1 hg7.1 hg7.2 (fun hr8 => ?_)
      refine im_lald (q := 31) D217_30 hb3.2.1 hg7.1 hg7.2 (Nat.le_trans hb3.2.2.2.2.2 (by decide)) rfl ?_
      exact (kJ13 ((M1 (a2 + 3) p3)) (Or.inl ⟨hc6, rfl⟩)).wk trivial
    · replace hP := hP.2 hc6
      refine im_ld (q := 16) (i := 5) D217_14 rfl rfl rfl ?_
      refine im_gfR (q := 19) (b := (a2 + 4)) D217_16 (im_fl cn_217 fl_11_284) hb3.1 rfl rfl tR_0_1 rfl ?_
      refine im_ld (q := 20) (i := 3) D217_19 rfl rfl rfl ?_
      have hg9 := hP
      refine im_rng (j := p3) hb3.2.2.1 hg9.1 hg9.2 (fun hr10 => ?_)
      refine im_lald (q := 21) D217_20 hb3.2.2.1 hg9.1 hg9.2 (Nat.le_trans hb3.2.2.2.2.2 (by decide)) rfl ?_
      refine im_goto (q := 24) (t := 31) D217_21 rfl ?_
      exact (kJ13 ((M1 (a2 + 4) p3)) (Or.inr ⟨hc6, rfl⟩)).wk trivial
  · exact im_bkE rfl hX
set_option maxRecDepth 20000 in
set_option maxHeartbeats 4000000 in
theorem k_P_count_0 {g : im_g} {d : Nat} {e : im_E} {M : im_M} {K : im_K} {p1 : Int} (hd : 1 ≤ d) (hP : im_T g (d - 1) 152 0 [some (.ref 0)] [] e M (im_rx (im_r0 (fun  e_ M1 => e = e_ ∧ (im_i32 p1) ∧ ((((¬ p1 = 0 → ((¬ p1 = 1 → im_T g (d - 1) 168 0 [some (vI 0)] [] e M1 (im_rx (im_r0 (fun  e_ M17 => e = e_ ∧ ((∀ x21 : Int, (((¬ p1 = 0) ∧ x21 = (M17 540 5)) ∨ ((p1 = 0) ∧ x21 = (M17 414 5))) → K (.inl (some (vI x21))) e M17)))) (fun E_ e_ M_ => K (.inr E_) e_ M_))))))) ∧ ((((p1 = 0)) ∨ ((¬ p1 = 0) ∧ (p1 = 1))) → im_T g (d - 1) 168 0 [some (vI 1)] [] e M1 (im_rx (im_r0 (fun  e_ M8 => e = e_ ∧ ((∀ x12 : Int, (((¬ p1 = 0) ∧ x12 = (M8 540 5)) ∨ ((p1 = 0) ∧ x12 = (M8 414 5))) → K (.inl (some (vI x12))) e M8)))) (fun E_ e_ M_ => K (.inr E_) e_ M_)))))) (fun E_ e_ M_ => K (.inr E_) e_ M_))) : im_T g d 219 0 [some (.ref 0), some (vI p1)] [] e M K := by
  refine im_ld (q := 1) (i := 0) D219_0 rfl rfl rfl ?_
  refine im_callV (q := 4) (kd := 1) (y := 152) (n := 0) (ci := 11) (a := 0) (vs := [.ref 0]) (r := []) (L2 := [some (.ref 0)]) D219_1 (im_cal cn_219 cl_11_124) (Or.inl rfl) rfl sf_0 rfl rfl rfl rfl hd ⟨rfl, trivial⟩ ?_
  refine hP.mono ?_
  rintro _ e26 M1 (⟨rfl, rfl, hP⟩ | ⟨E_, rfl, hX⟩)
  · refine im_bkN ?_
    refine im_ld (q := 5) (i := 1) D219_4 rfl rfl rfl ?_
    obtain ⟨hg2, hP⟩ := hP
    obtain ⟨hP, hJ5⟩ := hP
    have kJ6 : (((p1 = 0)) ∨ ((¬ p1 = 0) ∧ (p1 = 1))) → im_T g d 219 13 [some (.ref 0), some (vI p1)] [] e M1 K := by
      intro  hx7
      have hP := hJ5  hx7
      refine im_iconst (q := 14) D219_13 ?_
      refine im_goto (q := 17) (t := 18) D219_14 rfl ?_
      refine im_callS (q := 21) (kd := 0) (y := 168) (n := 1) (z := 11) (vs := [vI 1]) (r := []) (L2 := [some (vI 1)]) D219_18 rfl (im_cal cn_219 cl_11_195) (Or.inl rfl) rfl rfl rfl rfl rfl hd ⟨rfl, trivial⟩ ?_
      refine hP.mono ?_
      rintro _ e16 M8 (⟨rfl, rfl, hP⟩ | ⟨E_, rfl, hX⟩)
      · refine im_bkN ?_
        refine im_ld (q := 22) (i := 1) D219_21 rfl rfl rfl ?_
        have hJ13 := hP
        have kJ14 : ∀ x12 : Int, (((¬ p1 = 0) ∧ x12 = (M8 540 5)) ∨ ((p1 = 0) ∧ x12 = (M8 414 5))) → im_T g d 219 42 [none, none] [vI x12] e M8 K := by
          intro x12 hx15
          have hP := hJ13 x12 hx15
          exact im_iret (q := 43) D219_42 rfl hP
        refine im_ifc (q := 25) (t := 35) D219_22 rfl hg2 (fun hc9 => ?_) (fun hc9 => ?_)
        · refine im_ld (q := 36) (i := 0) D219_35 rfl rfl rfl ?_
          refine im_gfR (q := 39) (b := 540) D219_36 (im_fl cn_219 fl_11_84) sf_0 rfl rfl tR_11_13 rfl ?_
          refine im_rng (j := 5) sf_540 (by decide) (by decide) (fun hr10 => ?_)
          refine im_gfI (q := 42) D219_39 (im_fl cn_219 fl_11_347) sf_540 rfl rfl tI_7_5 rfl ?_
          exact (kJ14 ((M8 540 5)) (Or.inl ⟨hc9, rfl⟩)).wk trivial
        · refine im_ld (q := 26) (i := 0) D219_25 rfl rfl rfl ?_
          refine im_gfR (q := 29) (b := 414) D219_26 (im_fl cn_219 fl_11_81) sf_0 rfl rfl tR_11_12 rfl ?_
          refine im_rng (j := 5) sf_414 (by decide) (by decide) (fun hr11 => ?_)
          refine im_gfI (q := 32) D219_29 (im_fl cn_219 fl_11_347) sf_414 rfl rfl tI_7_5 rfl ?_
          refine im_goto (q := 35) (t := 42) D219_32 rfl ?_
          exact (kJ14 ((M8 414 5)) (Or.inr ⟨(Decidable.not_not.mp hc9), rfl⟩)).wk trivial
      · exact im_bkE rfl hX
    refine im_ifc (q := 8) (t := 13) D219_5 rfl hg2 (fun hc3 => ?_) (fun hc3 => ?_)
    · exact (kJ6  (Or.inl hc3)).wk ⟨rfl, rfl, trivial⟩
    · replace hP := hP hc3
      refine im_ld (q := 9) (i := 1) D219_8 rfl rfl rfl ?_
      refine im_iconst (q := 10) D219_9 ?_
      refine im_icmp (q := 13) (t := 17) D219_10 rfl hg2 (by decide) (fun hc4 => ?_) (fun hc4 => ?_)
      · replace hP := hP hc4
        refine im_iconst (q := 18) D219_17 ?_
        refine im_callS (q := 21) (kd := 0) (y := 168) (n := 1) (z := 11) (vs := [vI 0]) (r := []) (L2 := [some (vI 0)]) D219_18 rfl (im_cal cn_219 cl_11_195) (Or.inl rfl) rfl rfl rfl rfl rfl hd ⟨rfl, trivial⟩ ?_
        refine hP.mono ?_
        rintro _ e25 M17 (⟨rfl, rfl, hP⟩ | ⟨E_, rfl, hX⟩)
        · refine im_bkN ?_
          refine im_ld (q := 22) (i := 1) D219_21 rfl rfl rfl ?_
          have hJ22 := hP
          have kJ23 : ∀ x21 : Int, (((¬ p1 = 0) ∧ x21 = (M17 540 5)) ∨ ((p1 = 0) ∧ x21 = (M17 414 5))) → im_T g d 219 42 [none, none] [vI x21] e M17 K := by
            intro x21 hx24
            have hP := hJ22 x21 hx24
            exact im_iret (q := 43) D219_42 rfl hP
          refine im_ifc (q := 25) (t := 35) D219_22 rfl hg2 (fun hc18 => ?_) (fun hc18 => ?_)
          · refine im_ld (q := 36) (i := 0) D219_35 rfl rfl rfl ?_
            refine im_gfR (q := 39) (b := 540) D219_36 (im_fl cn_219 fl_11_84) sf_0 rfl rfl tR_11_13 rfl ?_
            refine im_rng (j := 5) sf_540 (by decide) (by decide) (fun hr19 => ?_)
            refine im_gfI (q := 42) D219_39 (im_fl cn_219 fl_11_347) sf_540 rfl rfl tI_7_5 rfl ?_
            exact (kJ23 ((M17 540 5)) (Or.inl ⟨hc18, rfl⟩)).wk trivial
          · refine im_ld (q := 26) (i := 0) D219_25 rfl rfl rfl ?_
            refine im_gfR (q := 29) (b := 414) D219_26 (im_fl cn_219 fl_11_81) sf_0 rfl rfl tR_11_12 rfl ?_
            refine im_rng (j := 5) sf_414 (by decide) (by decide) (fun hr20 => ?_)
            refine im_gfI (q := 32) D219_29 (im_fl cn_219 fl_11_347) sf_414 rfl rfl tI_7_5 rfl ?_
            refine im_goto (q := 35) (t := 42) D219_32 rfl ?_
            exact (kJ23 ((M17 414 5)) (Or.inr ⟨(Decidable.not_not.mp hc18), rfl⟩)).wk trivial
        · exact im_bkE rfl hX
      · exact (kJ6  (Or.inr ⟨hc3, (Decidable.not_not.mp hc4)⟩)).wk ⟨rfl, rfl, trivial⟩
  · exact im_bkE rfl hX
set_option maxRecDepth 20000 in
set_option maxHeartbeats 4000000 in
theorem k_P_payment_0 {g : im_g} {d : Nat} {e : im_E} {M : im_M} {K : im_K} {p1 p2 : Int} (hd : 1 ≤ d) (hP : im_T g (d - 1) 222 0 [some (.ref 0), some (.ref 414), some (vI p1), some (vI p2)] [] e M (im_rx (im_rl (fun x2 e_ M1 => e = e_ ∧ K (.inl (some (vL x2))) e M1)) (fun E_ e_ M_ => K (.inr E_) e_ M_))) : im_T g d 221 0 [some (.ref 0), some (vI p1), some (vI p2)] [] e M K := by
  refine im_ld (q := 1) (i := 0) D221_0 rfl rfl rfl ?_
  refine im_ld (q := 2) (i := 0) D221_1 rfl rfl rfl ?_
  refine im_gfR (q := 5) (b := 414) D221_2 (im_fl cn_221 fl_11_81) sf_0 rfl rfl tR_11_12 rfl ?_
  refine im_ld (q := 6) (i := 1) D221_5 rfl rfl rfl ?_
  refine im_ld (q := 7) (i := 2) D221_6 rfl rfl rfl ?_
  refine im_callV (q := 10) (kd := 1) (y := 222) (n := 3) (ci := 11) (a := 0) (vs := [.ref 0, .ref 414, vI p1, vI p2]) (r := []) (L2 := [some (.ref 0), some (.ref 414), some (vI p1), some (vI p2)]) D221_7 (im_cal cn_221 cl_11_357) (Or.inl rfl) rfl sf_0 rfl rfl rfl rfl hd ⟨rfl, rfl, rfl, rfl, trivial⟩ ?_
  refine hP.mono ?_
  rintro _ e3 M1 (⟨x2, rfl, rfl, hP⟩ | ⟨E_, rfl, hX⟩)
  · refine im_bkS ?_
    exact im_lret (q := 11) D221_10 rfl hP
  · exact im_bkE rfl hX
set_option maxRecDepth 20000 in
set_option maxHeartbeats 4000000 in
theorem k_P_noted_0 {g : im_g} {d : Nat} {e : im_E} {M : im_M} {K : im_K} {p2 p3 : Int} {p1 np1 : Nat} (hp1 : im_row e p1 np1) (hd : 1 ≤ d) (hP : im_T g (d - 1) 152 0 [some (.ref 0)] [] e M (im_rx (im_r0 (fun  e_ M1 => e = e_ ∧ im_T g (d - 1) 169 0 [some (vI p2), some (vI (M1 p1 5))] [] e M1 (im_rx (im_r0 (fun  e_ M3 => e = e_ ∧ (im_i32 p3) ∧ ((((0 ≤ p3 → ((p3 ≤ 3 → im_T g (d - 1) 168 0 [some (vI 1)] [] e M3 (im_rx (im_r0 (fun  e_ M24 => e = e_ ∧ ((p3 = 0 → (0 ≤ p2 ∧ p2 < np1) ∧ K (.inl (some (vL (M24 (p1 + 1) p2)))) e M24) ∧ (p3 = 1 → (0 ≤ p2 ∧ p2 < np1) ∧ K (.inl (some (vL (M24 (p1 + 2) p2)))) e M24) ∧ (p3 = 2 → (0 ≤ p2 ∧ p2 < np1) ∧ K (.inl (some (vL (M24 (p1 + 3) p2)))) e M24) ∧ (p3 < 0 ∨ 2 < p3 → (0 ≤ p2 ∧ p2 < np1) ∧ K (.inl (some (vL (M24 (p1 + 4) p2)))) e M24)))) (fun E_ e_ M_ => K (.inr E_) e_ M_))))))) ∧ ((((p3 < 0)) ∨ ((0 ≤ p3) ∧ (3 < p3))) → im_T g (d - 1) 168 0 [some (vI 0)] [] e M3 (im_rx (im_r0 (fun  e_ M10 => e = e_ ∧ ((p3 = 0 → (0 ≤ p2 ∧ p2 < np1) ∧ K (.inl (some (vL (M10 (p1 + 1) p2)))) e M10) ∧ (p3 = 1 → (0 ≤ p2 ∧ p2 < np1) ∧ K (.inl (some (vL (M10 (p1 + 2) p2)))) e M10) ∧ (p3 = 2 → (0 ≤ p2 ∧ p2 < np1) ∧ K (.inl (some (vL (M10 (p1 + 3) p2)))) e M10) ∧ (p3 < 0 ∨ 2 < p3 → (0 ≤ p2 ∧ p2 < np1) ∧ K (.inl (some (vL (M10 (p1 + 4) p2)))) e M10)))) (fun E_ e_ M_ => K (.inr E_) e_ M_)))))) (fun E_ e_ M_ => K (.inr E_) e_ M_)))) (fun E_ e_ M_ => K (.inr E_) e_ M_))) : im_T g d 222 0 [some (.ref 0), some (.ref p1), some (vI p2), some (vI p3)] [] e M K := by
  refine im_ld (q := 1) (i := 0) D222_0 rfl rfl rfl ?_
  refine im_callV (q := 4) (kd := 1) (y := 152) (n := 0) (ci := 11) (a := 0) (vs := [.ref 0]) (r := []) (L2 := [some (.ref 0)]) D222_1 (im_cal cn_222 cl_11_124) (Or.inl rfl) rfl sf_0 rfl rfl rfl rfl hd ⟨rfl, trivial⟩ ?_
  refine hP.mono ?_
  rintro _ e39 M1 (⟨rfl, rfl, hP⟩ | ⟨E_, rfl, hX⟩)
  · refine im_bkN ?_
    refine im_ld (q := 5) (i := 2) D222_4 rfl rfl rfl ?_
    refine im_ld (q := 6) (i := 1) D222_5 rfl rfl rfl ?_
    refine im_rng (j := 5) hp1.1 (by decide) (show (5 : Int) < ((6 : Nat) : Int) by decide) (fun hr2 => ?_)
    refine im_gfI (q := 9) D222_6 (im_fl cn_222 fl_11_347) hp1.1 rfl rfl tI_7_5 rfl ?_
    refine im_callS (q := 12) (kd := 0) (y := 169) (n := 2) (z := 11) (vs := [vI p2, vI (M1 p1 5)]) (r := []) (L2 := [some (vI p2), some (vI (M1 p1 5))]) D222_9 rfl (im_cal cn_222 cl_11_183) (Or.inl rfl) rfl rfl rfl rfl rfl hd ⟨rfl, rfl, trivial⟩ ?_
    refine hP.mono ?_
    rintro _ e38 M3 (⟨rfl, rfl, hP⟩ | ⟨E_, rfl, hX⟩)
    · refine im_bkN ?_
      refine im_ld (q := 13) (i := 3) D222_12 rfl rfl rfl ?_
      obtain ⟨hg4, hP⟩ := hP
      obtain ⟨hP, hJ7⟩ := hP
      have kJ8 : (((p3 < 0)) ∨ ((0 ≤ p3) ∧ (3 < p3))) → im_T g d 222 25 [none, some (.ref p1), some (vI p2), some (vI p3)] [] e M3 K := by
        intro  hx9
        have hP := hJ7  hx9
        refine im_iconst (q := 26) D222_25 ?_
        refine im_callS (q := 29) (kd := 0) (y := 168) (n := 1) (z := 11) (vs := [vI 0]) (r := []) (L2 := [some (vI 0)]) D222_26 rfl (im_cal cn_222 cl_11_195) (Or.inl rfl) rfl rfl rfl rfl rfl hd ⟨rfl, trivial⟩ ?_
        refine hP.mono ?_
        rintro _ e23 M10 (⟨rfl, rfl, hP⟩ | ⟨E_, rfl, hX⟩)
        · refine im_bkN ?_
          refine im_ld (q := 30) (i := 3) D222_29 rfl rfl rfl ?_
          by_cases hc13 : p3 = 0
          · refine im_tsw (q := 31) (t := 56) D222_30 hg4 (fun _ => by rcases hc13 with hc13 <;> (rw [hc13]; rfl)) (by rcases hc13 with hc13 <;> (rw [hc13]; rfl)) ?_
            replace hP := hP.1 hc13
            refine im_ld (q := 57) (i := 1) D222_56 rfl rfl rfl ?_
            refine im_gfR (q := 60) (b := (p1 + 1)) D222_57 (im_fl cn_222 fl_11_361) hp1.1 rfl rfl tR_7_0 rfl ?_
            refine im_ld (q := 61) (i := 2) D222_60 rfl rfl rfl ?_
            obtain ⟨hg11, hP⟩ := hP
            refine im_rng (j := p2) hp1.2.1 hg11.1 hg11.2 (fun hr12 => ?_)
            refine im_iald (q := 62) D222_61 hp1.2.1 hg11.1 hg11.2 (Nat.le_trans hp1.2.2.2.2.2.2 (by decide)) rfl ?_
            refine im_i2l (q := 63) D222_62 hr12 ?_
            exact im_lret (q := 64) D222_63 rfl hP
          by_cases hc16 : p3 = 1
          · refine im_tsw (q := 31) (t := 64) D222_30 hg4 (fun _ => by rcases hc16 with hc16 <;> (rw [hc16]; rfl)) (by rcases hc16 with hc16 <;> (rw [hc16]; rfl)) ?_
            replace hP := hP.2.1 hc16
            refine im_ld (q := 65) (i := 1) D222_64 rfl rfl rfl ?_
            refine im_gfR (q := 68) (b := (p1 + 2)) D222_65 (im_fl cn_222 fl_11_363) hp1.1 rfl rfl tR_7_1 rfl ?_
            refine im_ld (q := 69) (i := 2) D222_68 rfl rfl rfl ?_
            obtain ⟨hg14, hP⟩ := hP
            refine im_rng (j := p2) hp1.2.2.1 hg14.1 hg14.2 (fun hr15 => ?_)
            refine im_lald (q := 70) D222_69 hp1.2.2.1 hg14.1 hg14.2 (Nat.le_trans hp1.2.2.2.2.2.2 (by decide)) rfl ?_
            exact im_lret (q := 71) D222_70 rfl hP
          by_cases hc19 : p3 = 2
          · refine im_tsw (q := 31) (t := 71) D222_30 hg4 (fun _ => by rcases hc19 with hc19 <;> (rw [hc19]; rfl)) (by rcases hc19 with hc19 <;> (rw [hc19]; rfl)) ?_
            replace hP := hP.2.2.1 hc19
            refine im_ld (q := 72) (i := 1) D222_71 rfl rfl rfl ?_
            refine im_gfR (q := 75) (b := (p1 + 3)) D222_72 (im_fl cn_222 fl_11_364) hp1.1 rfl rfl tR_7_2 rfl ?_
            refine im_ld (q := 76) (i := 2) D222_75 rfl rfl rfl ?_
            obtain ⟨hg17, hP⟩ := hP
            refine im_rng (j := p2) hp1.2.2.2.1 hg17.1 hg17.2 (fun hr18 => ?_)
            refine im_lald (q := 77) D222_76 hp1.2.2.2.1 hg17.1 hg17.2 (Nat.le_trans hp1.2.2.2.2.2.2 (by decide)) rfl ?_
            exact im_lret (q := 78) D222_77 rfl hP
          have hd22 : p3 < 0 ∨ 2 < p3 := by clear hP; omega
          refine im_tsw (q := 31) (t := 78) D222_30 hg4 (fun z9 => absurd hd22 z9) (by rw [if_pos hd22]; rfl) ?_
          replace hP := hP.2.2.2 hd22
          refine im_ld (q := 79) (i := 1) D222_78 rfl rfl rfl ?_
          refine im_gfR (q := 82) (b := (p1 + 4)) D222_79 (im_fl cn_222 fl_11_365) hp1.1 rfl rfl tR_7_3 rfl ?_
          refine im_ld (q := 83) (i := 2) D222_82 rfl rfl rfl ?_
          obtain ⟨hg20, hP⟩ := hP
          refine im_rng (j := p2) hp1.2.2.2.2.1 hg20.1 hg20.2 (fun hr21 => ?_)
          refine im_lald (q := 84) D222_83 hp1.2.2.2.2.1 hg20.1 hg20.2 (Nat.le_trans hp1.2.2.2.2.2.2 (by decide)) rfl ?_
          exact im_lret (q := 85) D222_84 rfl hP
        · exact im_bkE rfl hX
      refine im_ifc (q := 16) (t := 25) D222_13 rfl hg4 (fun hc5 => ?_) (fun hc5 => ?_)
      · exact (kJ8  (Or.inl hc5)).wk ⟨rfl, rfl, rfl, trivial⟩
      · replace hP := hP (Int.not_lt.mp hc5)
        refine im_ld (q := 17) (i := 3) D222_16 rfl rfl rfl ?_
        refine im_iconst (q := 18) D222_17 ?_
        refine im_icmp (q := 21) (t := 25) D222_18 rfl hg4 (by decide) (fun hc6 => ?_) (fun hc6 => ?_)
        · exact (kJ8  (Or.inr ⟨(Int.not_lt.mp hc5), hc6⟩)).wk ⟨rfl, rfl, rfl, trivial⟩
        · replace hP := hP (Int.not_lt.mp hc6)
          refine im_iconst (q := 22) D222_21 ?_
          refine im_goto (q := 25) (t := 26) D222_22 rfl ?_
          refine im_callS (q := 29) (kd := 0) (y := 168) (n := 1) (z := 11) (vs := [vI 1]) (r := []) (L2 := [some (vI 1)]) D222_26 rfl (im_cal cn_222 cl_11_195) (Or.inl rfl) rfl rfl rfl rfl rfl hd ⟨rfl, trivial⟩ ?_
          refine hP.mono ?_
          rintro _ e37 M24 (⟨rfl, rfl, hP⟩ | ⟨E_, rfl, hX⟩)
          · refine im_bkN ?_
            refine im_ld (q := 30) (i := 3) D222_29 rfl rfl rfl ?_
            by_cases hc27 : p3 = 0
            · refine im_tsw (q := 31) (t := 56) D222_30 hg4 (fun _ => by rcases hc27 with hc27 <;> (rw [hc27]; rfl)) (by rcases hc27 with hc27 <;> (rw [hc27]; rfl)) ?_
              replace hP := hP.1 hc27
              refine im_ld (q := 57) (i := 1) D222_56 rfl rfl rfl ?_
              refine im_gfR (q := 60) (b := (p1 + 1)) D222_57 (im_fl cn_222 fl_11_361) hp1.1 rfl rfl tR_7_0 rfl ?_
              refine im_ld (q := 61) (i := 2) D222_60 rfl rfl rfl ?_
              obtain ⟨hg25, hP⟩ := hP
              refine im_rng (j := p2) hp1.2.1 hg25.1 hg25.2 (fun hr26 => ?_)
              refine im_iald (q := 62) D222_61 hp1.2.1 hg25.1 hg25.2 (Nat.le_trans hp1.2.2.2.2.2.2 (by decide)) rfl ?_
              refine im_i2l (q := 63) D222_62 hr26 ?_
              exact im_lret (q := 64) D222_63 rfl hP
            by_cases hc30 : p3 = 1
            · refine im_tsw (q := 31) (t := 64) D222_30 hg4 (fun _ => by rcases hc30 with hc30 <;> (rw [hc30]; rfl)) (by rcases hc30 with hc30 <;> (rw [hc30]; rfl)) ?_
              replace hP := hP.2.1 hc30
              refine im_ld (q := 65) (i := 1) D222_64 rfl rfl rfl ?_
              refine im_gfR (q := 68) (b := (p1 + 2)) D222_65 (im_fl cn_222 fl_11_363) hp1.1 rfl rfl tR_7_1 rfl ?_
              refine im_ld (q := 69) (i := 2) D222_68 rfl rfl rfl ?_
              obtain ⟨hg28, hP⟩ := hP
              refine im_rng (j := p2) hp1.2.2.1 hg28.1 hg28.2 (fun hr29 => ?_)
              refine im_lald (q := 70) D222_69 hp1.2.2.1 hg28.1 hg28.2 (Nat.le_trans hp1.2.2.2.2.2.2 (by decide)) rfl ?_
              exact im_lret (q := 71) D222_70 rfl hP
            by_cases hc33 : p3 = 2
            · refine im_tsw (q := 31) (t := 71) D222_30 hg4 (fun _ => by rcases hc33 with hc33 <;> (rw [hc33]; rfl)) (by rcases hc33 with hc33 <;> (rw [hc33]; rfl)) ?_
              replace hP := hP.2.2.1 hc33
              refine im_ld (q := 72) (i := 1) D222_71 rfl rfl rfl ?_
              refine im_gfR (q := 75) (b := (p1 + 3)) D222_72 (im_fl cn_222 fl_11_364) hp1.1 rfl rfl tR_7_2 rfl ?_
              refine im_ld (q := 76) (i := 2) D222_75 rfl rfl rfl ?_
              obtain ⟨hg31, hP⟩ := hP
              refine im_rng (j := p2) hp1.2.2.2.1 hg31.1 hg31.2 (fun hr32 => ?_)
              refine im_lald (q := 77) D222_76 hp1.2.2.2.1 hg31.1 hg31.2 (Nat.le_trans hp1.2.2.2.2.2.2 (by decide)) rfl ?_
              exact im_lret (q := 78) D222_77 rfl hP
            have hd36 : p3 < 0 ∨ 2 < p3 := by clear hP; omega
            refine im_tsw (q := 31) (t := 78) D222_30 hg4 (fun z9 => absurd hd36 z9) (by rw [if_pos hd36]; rfl) ?_
            replace hP := hP.2.2.2 hd36
            refine im_ld (q := 79) (i := 1) D222_78 rfl rfl rfl ?_
            refine im_gfR (q := 82) (b := (p1 + 4)) D222_79 (im_fl cn_222 fl_11_365) hp1.1 rfl rfl tR_7_3 rfl ?_
            refine im_ld (q := 83) (i := 2) D222_82 rfl rfl rfl ?_
            obtain ⟨hg34, hP⟩ := hP
            refine im_rng (j := p2) hp1.2.2.2.2.1 hg34.1 hg34.2 (fun hr35 => ?_)
            refine im_lald (q := 84) D222_83 hp1.2.2.2.2.1 hg34.1 hg34.2 (Nat.le_trans hp1.2.2.2.2.2.2 (by decide)) rfl ?_
            exact im_lret (q := 85) D222_84 rfl hP
          · exact im_bkE rfl hX
    · exact im_bkE rfl hX
  · exact im_bkE rfl hX
set_option maxRecDepth 20000 in
set_option maxHeartbeats 4000000 in
theorem k_P_amount_0 {g : im_g} {d : Nat} {e : im_E} {M : im_M} {K : im_K} {p1 p2 : Int} (hd : 1 ≤ d) (hP : im_T g (d - 1) 152 0 [some (.ref 0)] [] e M (im_rx (im_r0 (fun  e_ M1 => e = e_ ∧ (im_i32 p2) ∧ ((p2 = 0 → im_T g (d - 1) 169 0 [some (vI p1), some (vI (M1 414 5))] [] e M1 (im_rx (im_r0 (fun  e_ M5 => e = e_ ∧ ((((¬ p2 = 0 → (0 ≤ p1 ∧ p1 < 60) ∧ (((M5 415 p1) = 5 → im_T g (d - 1) 22 0 [some (.ref 7)] [] e M5 (im_r0 (fun  e_ M20 => e = e_ ∧ K (.inl (some (vI 0))) e M20))))))) ∧ ((((p2 = 0)) ∨ ((¬ p2 = 0) ∧ (¬ (M5 415 p1) = 5))) → (0 ≤ p1 ∧ p1 < 60) ∧ ∃ b14 : Nat, ((M5 419 p1) = (b14 : Int)) ∧ (im_num e b14) ∧ im_T g (d - 1) 215 0 [some (.ref 0), some (.ref b14)] [] e M5 (im_ri (fun x18 e_ M17 => e = e_ ∧ K (.inl (some (vI x18))) e M17)))))) (fun E_ e_ M_ => K (.inr E_) e_ M_))) ∧ (¬ p2 = 0 → im_T g (d - 1) 169 0 [some (vI p1), some (vI (M1 540 5))] [] e M1 (im_rx (im_r0 (fun  e_ M24 => e = e_ ∧ ((((¬ p2 = 0 → (0 ≤ p1 ∧ p1 < 60) ∧ (((M24 541 p1) = 5 → im_T g (d - 1) 22 0 [some (.ref 7)] [] e M24 (im_r0 (fun  e_ M39 => e = e_ ∧ K (.inl (some (vI 0))) e M39))))))) ∧ ((((p2 = 0)) ∨ ((¬ p2 = 0) ∧ (¬ (M24 541 p1) = 5))) → (0 ≤ p1 ∧ p1 < 60) ∧ ∃ b33 : Nat, ((M24 545 p1) = (b33 : Int)) ∧ (im_num e b33) ∧ im_T g (d - 1) 215 0 [some (.ref 0), some (.ref b33)] [] e M24 (im_ri (fun x37 e_ M36 => e = e_ ∧ K (.inl (some (vI x37))) e M36)))))) (fun E_ e_ M_ => K (.inr E_) e_ M_)))))) (fun E_ e_ M_ => K (.inr E_) e_ M_))) : im_T g d 224 0 [some (.ref 0), some (vI p1), some (vI p2), none] [] e M K := by
  refine im_ld (q := 1) (i := 0) D224_0 rfl rfl rfl ?_
  refine im_callV (q := 4) (kd := 1) (y := 152) (n := 0) (ci := 11) (a := 0) (vs := [.ref 0]) (r := []) (L2 := [some (.ref 0)]) D224_1 (im_cal cn_224 cl_11_124) (Or.inl rfl) rfl sf_0 rfl rfl rfl rfl hd ⟨rfl, trivial⟩ ?_
  refine hP.mono ?_
  rintro _ e42 M1 (⟨rfl, rfl, hP⟩ | ⟨E_, rfl, hX⟩)
  · refine im_bkN ?_
    refine im_ld (q := 5) (i := 2) D224_4 rfl rfl rfl ?_
    obtain ⟨hg2, hP⟩ := hP
    refine im_ifc (q := 8) (t := 15) D224_5 rfl hg2 (fun hc3 => ?_) (fun hc3 => ?_)
    · replace hP := hP.1 hc3
      refine im_ld (q := 16) (i := 0) D224_15 rfl rfl rfl ?_
      refine im_gfR (q := 19) (b := 414) D224_16 (im_fl cn_224 fl_11_81) sf_0 rfl rfl tR_11_12 rfl ?_
      refine im_stR (q := 20) (i := 3) (L' := [some (.ref 0), some (vI p1), some (vI p2), some (.ref 414)]) D224_19 (Or.inl ⟨_, rfl, rfl⟩) (Nat.le_of_ble_eq_true rfl) rfl ?_
      refine im_ld (q := 21) (i := 1) D224_20 rfl rfl rfl ?_
      refine im_ld (q := 22) (i := 3) D224_21 rfl rfl rfl ?_
      refine im_rng (j := 5) sf_414 (by decide) (by decide) (fun hr4 => ?_)
      refine im_gfI (q := 25) D224_22 (im_fl cn_224 fl_11_347) sf_414 rfl rfl tI_7_5 rfl ?_
      refine im_callS (q := 28) (kd := 0) (y := 169) (n := 2) (z := 11) (vs := [vI p1, vI (M1 414 5)]) (r := []) (L2 := [some (vI p1), some (vI (M1 414 5))]) D224_25 rfl (im_cal cn_224 cl_11_183) (Or.inl rfl) rfl rfl rfl rfl rfl hd ⟨rfl, rfl, trivial⟩ ?_
      refine hP.mono ?_
      rintro _ e22 M5 (⟨rfl, rfl, hP⟩ | ⟨E_, rfl, hX⟩)
      · refine im_bkN ?_
        refine im_ld (q := 29) (i := 2) D224_28 rfl rfl rfl ?_
        obtain ⟨hP, hJ10⟩ := hP
        have kJ11 : (((p2 = 0)) ∨ ((¬ p2 = 0) ∧ (¬ (M5 415 p1) = 5))) → im_T g d 224 51 [some (.ref 0), some (vI p1), none, some (.ref 414)] [] e M5 K := by
          intro  hx12
          have hP := hJ10  hx12
          refine im_ld (q := 52) (i := 0) D224_51 rfl rfl rfl ?_
          refine im_ld (q := 53) (i := 3) D224_52 rfl rfl rfl ?_
          refine im_gfR (q := 56) (b := 419) D224_53 (im_fl cn_224 fl_11_362) sf_414 rfl rfl tR_7_4 rfl ?_
          refine im_ld (q := 57) (i := 1) D224_56 rfl rfl rfl ?_
          obtain ⟨hg13, hP⟩ := hP
          obtain ⟨b14, hb15, hP⟩ := hP
          obtain ⟨hb16, hP⟩ := hP
          refine im_aald (q := 58) D224_57 sf_419 (Or.inl rfl) hg13.1 hg13.2 (by decide) hb15 ?_
          refine im_callV (q := 61) (kd := 1) (y := 215) (n := 1) (ci := 11) (a := 0) (vs := [.ref 0, .ref b14]) (r := []) (L2 := [some (.ref 0), some (.ref b14)]) D224_58 (im_cal cn_224 cl_11_280) (Or.inl rfl) rfl sf_0 rfl rfl rfl rfl hd ⟨rfl, rfl, trivial⟩ ?_
          refine hP.mono ?_
          rintro _ e19 M17 ⟨x18, rfl, rfl, hP⟩
          refine im_bkS ?_
          exact im_iret (q := 62) D224_61 rfl hP
        refine im_ifc (q := 32) (t := 51) D224_29 rfl hg2 (fun hc6 => ?_) (fun hc6 => ?_)
        · exact (kJ11  (Or.inl hc6)).wk ⟨rfl, rfl, rfl, trivial⟩
        · replace hP := hP hc6
          refine im_ld (q := 33) (i := 3) D224_32 rfl rfl rfl ?_
          refine im_gfR (q := 36) (b := 415) D224_33 (im_fl cn_224 fl_11_361) sf_414 rfl rfl tR_7_0 rfl ?_
          refine im_ld (q := 37) (i := 1) D224_36 rfl rfl rfl ?_
          obtain ⟨hg7, hP⟩ := hP
          refine im_rng (j := p1) sf_415 hg7.1 hg7.2 (fun hr8 => ?_)
          refine im_iald (q := 38) D224_37 sf_415 hg7.1 hg7.2 (by decide) rfl ?_
          refine im_iconst (q := 39) D224_38 ?_
          refine im_icmp (q := 42) (t := 51) D224_39 rfl hr8 (by decide) (fun hc9 => ?_) (fun hc9 => ?_)
          · exact (kJ11  (Or.inr ⟨hc6, hc9⟩)).wk ⟨rfl, rfl, rfl, trivial⟩
          · replace hP := hP (Decidable.not_not.mp hc9)
            refine im_ld (q := 43) (i := 0) D224_42 rfl rfl rfl ?_
            refine im_gfR (q := 46) (b := 7) D224_43 (im_fl cn_224 fl_11_29) sf_0 rfl rfl tR_11_3 rfl ?_
            refine im_callV (q := 49) (kd := 1) (y := 22) (n := 0) (ci := 10) (a := 7) (vs := [.ref 7]) (r := []) (L2 := [some (.ref 7)]) D224_46 (im_cal cn_224 cl_11_155) (Or.inl rfl) rfl sf_7 rfl rfl rfl rfl hd ⟨rfl, trivial⟩ ?_
            refine hP.mono ?_
            rintro _ e21 M20 ⟨rfl, rfl, hP⟩
            refine im_bkN ?_
            refine im_iconst (q := 50) D224_49 ?_
            exact im_iret (q := 51) D224_50 rfl hP
      · exact im_bkE rfl hX
    · replace hP := hP.2 hc3
      refine im_ld (q := 9) (i := 0) D224_8 rfl rfl rfl ?_
      refine im_gfR (q := 12) (b := 540) D224_9 (im_fl cn_224 fl_11_84) sf_0 rfl rfl tR_11_13 rfl ?_
      refine im_goto (q := 15) (t := 19) D224_12 rfl ?_
      refine im_stR (q := 20) (i := 3) (L' := [some (.ref 0), some (vI p1), some (vI p2), some (.ref 540)]) D224_19 (Or.inl ⟨_, rfl, rfl⟩) (Nat.le_of_ble_eq_true rfl) rfl ?_
      refine im_ld (q := 21) (i := 1) D224_20 rfl rfl rfl ?_
      refine im_ld (q := 22) (i := 3) D224_21 rfl rfl rfl ?_
      refine im_rng (j := 5) sf_540 (by decide) (by decide) (fun hr23 => ?_)
      refine im_gfI (q := 25) D224_22 (im_fl cn_224 fl_11_347) sf_540 rfl rfl tI_7_5 rfl ?_
      refine im_callS (q := 28) (kd := 0) (y := 169) (n := 2) (z := 11) (vs := [vI p1, vI (M1 540 5)]) (r := []) (L2 := [some (vI p1), some (vI (M1 540 5))]) D224_25 rfl (im_cal cn_224 cl_11_183) (Or.inl rfl) rfl rfl rfl rfl rfl hd ⟨rfl, rfl, trivial⟩ ?_
      refine hP.mono ?_
      rintro _ e41 M24 (⟨rfl, rfl, hP⟩ | ⟨E_, rfl, hX⟩)
      · refine im_bkN ?_
        refine im_ld (q := 29) (i := 2) D224_28 rfl rfl rfl ?_
        obtain ⟨hP, hJ29⟩ := hP
        have kJ30 : (((p2 = 0)) ∨ ((¬ p2 = 0) ∧ (¬ (M24 541 p1) = 5))) → im_T g d 224 51 [some (.ref 0), some (vI p1), none, some (.ref 540)] [] e M24 K := by
          intro  hx31
          have hP := hJ29  hx31
          refine im_ld (q := 52) (i := 0) D224_51 rfl rfl rfl ?_
          refine im_ld (q := 53) (i := 3) D224_52 rfl rfl rfl ?_
          refine im_gfR (q := 56) (b := 545) D224_53 (im_fl cn_224 fl_11_362) sf_540 rfl rfl tR_7_4 rfl ?_
          refine im_ld (q := 57) (i := 1) D224_56 rfl rfl rfl ?_
          obtain ⟨hg32, hP⟩ := hP
          obtain ⟨b33, hb34, hP⟩ := hP
          obtain ⟨hb35, hP⟩ := hP
          refine im_aald (q := 58) D224_57 sf_545 (Or.inl rfl) hg32.1 hg32.2 (by decide) hb34 ?_
          refine im_callV (q := 61) (kd := 1) (y := 215) (n := 1) (ci := 11) (a := 0) (vs := [.ref 0, .ref b33]) (r := []) (L2 := [some (.ref 0), some (.ref b33)]) D224_58 (im_cal cn_224 cl_11_280) (Or.inl rfl) rfl sf_0 rfl rfl rfl rfl hd ⟨rfl, rfl, trivial⟩ ?_
          refine hP.mono ?_
          rintro _ e38 M36 ⟨x37, rfl, rfl, hP⟩
          refine im_bkS ?_
          exact im_iret (q := 62) D224_61 rfl hP
        refine im_ifc (q := 32) (t := 51) D224_29 rfl hg2 (fun hc25 => ?_) (fun hc25 => ?_)
        · exact (kJ30  (Or.inl hc25)).wk ⟨rfl, rfl, rfl, trivial⟩
        · replace hP := hP hc25
          refine im_ld (q := 33) (i := 3) D224_32 rfl rfl rfl ?_
          refine im_gfR (q := 36) (b := 541) D224_33 (im_fl cn_224 fl_11_361) sf_540 rfl rfl tR_7_0 rfl ?_
          refine im_ld (q := 37) (i := 1) D224_36 rfl rfl rfl ?_
          obtain ⟨hg26, hP⟩ := hP
          refine im_rng (j := p1) sf_541 hg26.1 hg26.2 (fun hr27 => ?_)
          refine im_iald (q := 38) D224_37 sf_541 hg26.1 hg26.2 (by decide) rfl ?_
          refine im_iconst (q := 39) D224_38 ?_
          refine im_icmp (q := 42) (t := 51) D224_39 rfl hr27 (by decide) (fun hc28 => ?_) (fun hc28 => ?_)
          · exact (kJ30  (Or.inr ⟨hc25, hc28⟩)).wk ⟨rfl, rfl, rfl, trivial⟩
          · replace hP := hP (Decidable.not_not.mp hc28)
            refine im_ld (q := 43) (i := 0) D224_42 rfl rfl rfl ?_
            refine im_gfR (q := 46) (b := 7) D224_43 (im_fl cn_224 fl_11_29) sf_0 rfl rfl tR_11_3 rfl ?_
            refine im_callV (q := 49) (kd := 1) (y := 22) (n := 0) (ci := 10) (a := 7) (vs := [.ref 7]) (r := []) (L2 := [some (.ref 7)]) D224_46 (im_cal cn_224 cl_11_155) (Or.inl rfl) rfl sf_7 rfl rfl rfl rfl hd ⟨rfl, trivial⟩ ?_
            refine hP.mono ?_
            rintro _ e40 M39 ⟨rfl, rfl, hP⟩
            refine im_bkN ?_
            refine im_iconst (q := 50) D224_49 ?_
            exact im_iret (q := 51) D224_50 rfl hP
      · exact im_bkE rfl hX
  · exact im_bkE rfl hX
set_option maxRecDepth 20000 in
set_option maxHeartbeats 4000000 in
theorem k_P_warning_0 {g : im_g} {d : Nat} {e : im_E} {M : im_M} {K : im_K} {p1 p2 : Int} (hd : 1 ≤ d) (hP : im_T g (d - 1) 222 0 [some (.ref 0), some (.ref 540), some (vI p1), some (vI p2)] [] e M (im_rx (im_rl (fun x2 e_ M1 => e = e_ ∧ K (.inl (some (vL x2))) e M1)) (fun E_ e_ M_ => K (.inr E_) e_ M_))) : im_T g d 226 0 [some (.ref 0), some (vI p1), some (vI p2)] [] e M K := by
  refine im_ld (q := 1) (i := 0) D226_0 rfl rfl rfl ?_
  refine im_ld (q := 2) (i := 0) D226_1 rfl rfl rfl ?_
  refine im_gfR (q := 5) (b := 540) D226_2 (im_fl cn_226 fl_11_84) sf_0 rfl rfl tR_11_13 rfl ?_
  refine im_ld (q := 6) (i := 1) D226_5 rfl rfl rfl ?_
  refine im_ld (q := 7) (i := 2) D226_6 rfl rfl rfl ?_
  refine im_callV (q := 10) (kd := 1) (y := 222) (n := 3) (ci := 11) (a := 0) (vs := [.ref 0, .ref 540, vI p1, vI p2]) (r := []) (L2 := [some (.ref 0), some (.ref 540), some (vI p1), some (vI p2)]) D226_7 (im_cal cn_226 cl_11_357) (Or.inl rfl) rfl sf_0 rfl rfl rfl rfl hd ⟨rfl, rfl, rfl, rfl, trivial⟩ ?_
  refine hP.mono ?_
  rintro _ e3 M1 (⟨x2, rfl, rfl, hP⟩ | ⟨E_, rfl, hX⟩)
  · refine im_bkS ?_
    exact im_lret (q := 11) D226_10 rfl hP
  · exact im_bkE rfl hX
set_option maxRecDepth 20000 in
set_option maxHeartbeats 4000000 in
theorem k_P_mint_0 {g : im_g} {d : Nat} {e : im_E} {M : im_M} {K : im_K} {p1 p3 : Int} (hd : 1 ≤ d) (hP : im_T g (d - 1) 165 0 [some (.ref 0), none] [] e M (im_rx (im_ri (fun x2 e_ M1 => e = e_ ∧ im_T g (d - 1) 94 0 [some (.ref 0), some (vL p1), none, some (vL p3), none, some (vI x2), none, none, none] [] e M1 (im_ri (fun x4 e_ M3 => e = e_ ∧ im_T g (d - 1) 166 0 [some (.ref 0), some (vI x4)] [] e M3 (im_rx (im_ri (fun x6 e_ M5 => e = e_ ∧ K (.inl (some (vI x6))) e M5)) (fun E_ e_ M_ => K (.inr E_) e_ M_)))))) (fun E_ e_ M_ => K (.inr E_) e_ M_))) : im_T g d 228 0 [some (.ref 0), some (vL p1), none, some (vL p3), none] [] e M K := by
  refine im_ld (q := 1) (i := 0) D228_0 rfl rfl rfl ?_
  refine im_ld (q := 2) (i := 0) D228_1 rfl rfl rfl ?_
  refine im_ld (q := 3) (i := 1) D228_2 rfl rfl rfl ?_
  refine im_ld (q := 4) (i := 3) D228_3 rfl rfl rfl ?_
  refine im_ld (q := 5) (i := 0) D228_4 rfl rfl rfl ?_
  refine im_callV (q := 8) (kd := 1) (y := 165) (n := 0) (ci := 11) (a := 0) (vs := [.ref 0]) (r := [vL p3, vL p1, .ref 0, .ref 0]) (L2 := [some (.ref 0), none]) D228_5 (im_cal cn_228 cl_11_161) (Or.inl rfl) rfl sf_0 rfl rfl rfl rfl hd ⟨rfl, trivial⟩ ?_
  refine hP.mono ?_
  rintro _ e9 M1 (⟨x2, rfl, rfl, hP⟩ | ⟨E_, rfl, hX⟩)
  · refine im_bkS ?_
    refine im_callV (q := 11) (kd := 1) (y := 94) (n := 3) (ci := 11) (a := 0) (vs := [.ref 0, vL p1, vL p3, vI x2]) (r := [.ref 0]) (L2 := [some (.ref 0), some (vL p1), none, some (vL p3), none, some (vI x2), none, none, none]) D228_8 (im_cal cn_228 cl_11_368) (Or.inl rfl) rfl sf_0 rfl rfl rfl rfl hd ⟨rfl, rfl, rfl, rfl, trivial⟩ ?_
    refine hP.mono ?_
    rintro _ e8 M3 ⟨x4, rfl, rfl, hP⟩
    refine im_bkS ?_
    refine im_callV (q := 14) (kd := 1) (y := 166) (n := 1) (ci := 11) (a := 0) (vs := [.ref 0, vI x4]) (r := []) (L2 := [some (.ref 0), some (vI x4)]) D228_11 (im_cal cn_228 cl_11_169) (Or.inl rfl) rfl sf_0 rfl rfl rfl rfl hd ⟨rfl, rfl, trivial⟩ ?_
    refine hP.mono ?_
    rintro _ e7 M5 (⟨x6, rfl, rfl, hP⟩ | ⟨E_, rfl, hX⟩)
    · refine im_bkS ?_
      exact im_iret (q := 15) D228_14 rfl hP
    · exact im_bkE rfl hX
  · exact im_bkE rfl hX
set_option maxRecDepth 20000 in
set_option maxHeartbeats 4000000 in
theorem k_P_wallet_0 {g : im_g} {d : Nat} {e : im_E} {M : im_M} {K : im_K} {p1 p3 : Int} (hd : 1 ≤ d) (hP : im_T g (d - 1) 152 0 [some (.ref 0)] [] e M (im_rx (im_r0 (fun  e_ M1 => e = e_ ∧ im_T g (d - 1) 95 0 [some (.ref 2), some (vL p1), none, none, none, none] [] e M1 (im_ri (fun x3 e_ M2 => e = e_ ∧ (im_i32 x3) ∧ ((x3 = 0 → im_T g (d - 1) 168 0 [some (vI 0)] [] e M2 (im_rx (im_r0 (fun  e_ M6 => e = e_ ∧ im_T g (d - 1) 89 0 [some (.ref 76), some (vL p1), none, some (vL p3), none, none] [] e M6 (im_rr (fun a8 e_ M7 => e = e_ ∧ im_num e a8 ∧ im_T g (d - 1) 215 0 [some (.ref 0), some (.ref a8)] [] e M7 (im_ri (fun x11 e_ M10 => e = e_ ∧ K (.inl (some (vI x11))) e M10)))))) (fun E_ e_ M_ => K (.inr E_) e_ M_))) ∧ (¬ x3 = 0 → im_T g (d - 1) 95 0 [some (.ref 2), some (vL p3), none, none, none, none] [] e M2 (im_ri (fun x16 e_ M15 => e = e_ ∧ (im_i32 x16) ∧ ((x16 = 0 → im_T g (d - 1) 168 0 [some (vI 0)] [] e M15 (im_rx (im_r0 (fun  e_ M19 => e = e_ ∧ im_T g (d - 1) 89 0 [some (.ref 76), some (vL p1), none, some (vL p3), none, none] [] e M19 (im_rr (fun a21 e_ M20 => e = e_ ∧ im_num e a21 ∧ im_T g (d - 1) 215 0 [some (.ref 0), some (.ref a21)] [] e M20 (im_ri (fun x24 e_ M23 => e = e_ ∧ K (.inl (some (vI x24))) e M23)))))) (fun E_ e_ M_ => K (.inr E_) e_ M_))) ∧ (¬ x16 = 0 → im_T g (d - 1) 168 0 [some (vI 1)] [] e M15 (im_rx (im_r0 (fun  e_ M28 => e = e_ ∧ im_T g (d - 1) 89 0 [some (.ref 76), some (vL p1), none, some (vL p3), none, none] [] e M28 (im_rr (fun a30 e_ M29 => e = e_ ∧ im_num e a30 ∧ im_T g (d - 1) 215 0 [some (.ref 0), some (.ref a30)] [] e M29 (im_ri (fun x33 e_ M32 => e = e_ ∧ K (.inl (some (vI x33))) e M32)))))) (fun E_ e_ M_ => K (.inr E_) e_ M_)))))))))))) (fun E_ e_ M_ => K (.inr E_) e_ M_))) : im_T g d 230 0 [some (.ref 0), some (vL p1), none, some (vL p3), none] [] e M K := by
  refine im_ld (q := 1) (i := 0) D230_0 rfl rfl rfl ?_
  refine im_callV (q := 4) (kd := 1) (y := 152) (n := 0) (ci := 11) (a := 0) (vs := [.ref 0]) (r := []) (L2 := [some (.ref 0)]) D230_1 (im_cal cn_230 cl_11_124) (Or.inl rfl) rfl sf_0 rfl rfl rfl rfl hd ⟨rfl, trivial⟩ ?_
  refine hP.mono ?_
  rintro _ e39 M1 (⟨rfl, rfl, hP⟩ | ⟨E_, rfl, hX⟩)
  · refine im_bkN ?_
    refine im_ld (q := 5) (i := 0) D230_4 rfl rfl rfl ?_
    refine im_gfR (q := 8) (b := 2) D230_5 (im_fl cn_230 fl_11_16) sf_0 rfl rfl tR_11_2 rfl ?_
    refine im_ld (q := 9) (i := 1) D230_8 rfl rfl rfl ?_
    refine im_callV (q := 12) (kd := 1) (y := 95) (n := 1) (ci := 6) (a := 2) (vs := [.ref 2, vL p1]) (r := []) (L2 := [some (.ref 2), some (vL p1), none, none, none, none]) D230_9 (im_cal cn_230 cl_11_299) (Or.inl rfl) rfl sf_2 rfl rfl rfl rfl hd ⟨rfl, rfl, trivial⟩ ?_
    refine hP.mono ?_
    rintro _ e38 M2 ⟨x3, rfl, rfl, hP⟩
    refine im_bkS ?_
    obtain ⟨hg4, hP⟩ := hP
    refine im_ifc (q := 15) (t := 30) D230_12 rfl hg4 (fun hc5 => ?_) (fun hc5 => ?_)
    · replace hP := hP.1 hc5
      refine im_iconst (q := 31) D230_30 ?_
      refine im_callS (q := 34) (kd := 0) (y := 168) (n := 1) (z := 11) (vs := [vI 0]) (r := []) (L2 := [some (vI 0)]) D230_31 rfl (im_cal cn_230 cl_11_195) (Or.inl rfl) rfl rfl rfl rfl rfl hd ⟨rfl, trivial⟩ ?_
      refine hP.mono ?_
      rintro _ e14 M6 (⟨rfl, rfl, hP⟩ | ⟨E_, rfl, hX⟩)
      · refine im_bkN ?_
        refine im_ld (q := 35) (i := 0) D230_34 rfl rfl rfl ?_
        refine im_ld (q := 36) (i := 0) D230_35 rfl rfl rfl ?_
        refine im_gfR (q := 39) (b := 76) D230_36 (im_fl cn_230 fl_11_68) sf_0 rfl rfl tR_11_9 rfl ?_
        refine im_ld (q := 40) (i := 1) D230_39 rfl rfl rfl ?_
        refine im_ld (q := 41) (i := 3) D230_40 rfl rfl rfl ?_
        refine im_callV (q := 44) (kd := 1) (y := 89) (n := 2) (ci := 0) (a := 76) (vs := [.ref 76, vL p1, vL p3]) (r := [.ref 0]) (L2 := [some (.ref 76), some (vL p1), none, some (vL p3), none, none]) D230_41 (im_cal cn_230 cl_11_372) (Or.inl rfl) rfl sf_76 rfl rfl rfl rfl hd ⟨rfl, rfl, rfl, trivial⟩ ?_
        refine hP.mono ?_
        rintro _ e13 M7 ⟨a8, rfl, rfl, hP⟩
        refine im_bkS ?_
        obtain ⟨hb9, hP⟩ := hP
        refine im_callV (q := 47) (kd := 1) (y := 215) (n := 1) (ci := 11) (a := 0) (vs := [.ref 0, .ref a8]) (r := []) (L2 := [some (.ref 0), some (.ref a8)]) D230_44 (im_cal cn_230 cl_11_280) (Or.inl rfl) rfl sf_0 rfl rfl rfl rfl hd ⟨rfl, rfl, trivial⟩ ?_
        refine hP.mono ?_
        rintro _ e12 M10 ⟨x11, rfl, rfl, hP⟩
        refine im_bkS ?_
        exact im_iret (q := 48) D230_47 rfl hP
      · exact im_bkE rfl hX
    · replace hP := hP.2 hc5
      refine im_ld (q := 16) (i := 0) D230_15 rfl rfl rfl ?_
      refine im_gfR (q := 19) (b := 2) D230_16 (im_fl cn_230 fl_11_16) sf_0 rfl rfl tR_11_2 rfl ?_
      refine im_ld (q := 20) (i := 3) D230_19 rfl rfl rfl ?_
      refine im_callV (q := 23) (kd := 1) (y := 95) (n := 1) (ci := 6) (a := 2) (vs := [.ref 2, vL p3]) (r := []) (L2 := [some (.ref 2), some (vL p3), none, none, none, none]) D230_20 (im_cal cn_230 cl_11_299) (Or.inl rfl) rfl sf_2 rfl rfl rfl rfl hd ⟨rfl, rfl, trivial⟩ ?_
      refine hP.mono ?_
      rintro _ e37 M15 ⟨x16, rfl, rfl, hP⟩
      refine im_bkS ?_
      obtain ⟨hg17, hP⟩ := hP
      refine im_ifc (q := 26) (t := 30) D230_23 rfl hg17 (fun hc18 => ?_) (fun hc18 => ?_)
      · replace hP := hP.1 hc18
        refine im_iconst (q := 31) D230_30 ?_
        refine im_callS (q := 34) (kd := 0) (y := 168) (n := 1) (z := 11) (vs := [vI 0]) (r := []) (L2 := [some (vI 0)]) D230_31 rfl (im_cal cn_230 cl_11_195) (Or.inl rfl) rfl rfl rfl rfl rfl hd ⟨rfl, trivial⟩ ?_
        refine hP.mono ?_
        rintro _ e27 M19 (⟨rfl, rfl, hP⟩ | ⟨E_, rfl, hX⟩)
        · refine im_bkN ?_
          refine im_ld (q := 35) (i := 0) D230_34 rfl rfl rfl ?_
          refine im_ld (q := 36) (i := 0) D230_35 rfl rfl rfl ?_
          refine im_gfR (q := 39) (b := 76) D230_36 (im_fl cn_230 fl_11_68) sf_0 rfl rfl tR_11_9 rfl ?_
          refine im_ld (q := 40) (i := 1) D230_39 rfl rfl rfl ?_
          refine im_ld (q := 41) (i := 3) D230_40 rfl rfl rfl ?_
          refine im_callV (q := 44) (kd := 1) (y := 89) (n := 2) (ci := 0) (a := 76) (vs := [.ref 76, vL p1, vL p3]) (r := [.ref 0]) (L2 := [some (.ref 76), some (vL p1), none, some (vL p3), none, none]) D230_41 (im_cal cn_230 cl_11_372) (Or.inl rfl) rfl sf_76 rfl rfl rfl rfl hd ⟨rfl, rfl, rfl, trivial⟩ ?_
          refine hP.mono ?_
          rintro _ e26 M20 ⟨a21, rfl, rfl, hP⟩
          refine im_bkS ?_
          obtain ⟨hb22, hP⟩ := hP
          refine im_callV (q := 47) (kd := 1) (y := 215) (n := 1) (ci := 11) (a := 0) (vs := [.ref 0, .ref a21]) (r := []) (L2 := [some (.ref 0), some (.ref a21)]) D230_44 (im_cal cn_230 cl_11_280) (Or.inl rfl) rfl sf_0 rfl rfl rfl rfl hd ⟨rfl, rfl, trivial⟩ ?_
          refine hP.mono ?_
          rintro _ e25 M23 ⟨x24, rfl, rfl, hP⟩
          refine im_bkS ?_
          exact im_iret (q := 48) D230_47 rfl hP
        · exact im_bkE rfl hX
      · replace hP := hP.2 hc18
        refine im_iconst (q := 27) D230_26 ?_
        refine im_goto (q := 30) (t := 31) D230_27 rfl ?_
        refine im_callS (q := 34) (kd := 0) (y := 168) (n := 1) (z := 11) (vs := [vI 1]) (r := []) (L2 := [some (vI 1)]) D230_31 rfl (im_cal cn_230 cl_11_195) (Or.inl rfl) rfl rfl rfl rfl rfl hd ⟨rfl, trivial⟩ ?_
        refine hP.mono ?_
        rintro _ e36 M28 (⟨rfl, rfl, hP⟩ | ⟨E_, rfl, hX⟩)
        · refine im_bkN ?_
          refine im_ld (q := 35) (i := 0) D230_34 rfl rfl rfl ?_
          refine im_ld (q := 36) (i := 0) D230_35 rfl rfl rfl ?_
          refine im_gfR (q := 39) (b := 76) D230_36 (im_fl cn_230 fl_11_68) sf_0 rfl rfl tR_11_9 rfl ?_
          refine im_ld (q := 40) (i := 1) D230_39 rfl rfl rfl ?_
          refine im_ld (q := 41) (i := 3) D230_40 rfl rfl rfl ?_
          refine im_callV (q := 44) (kd := 1) (y := 89) (n := 2) (ci := 0) (a := 76) (vs := [.ref 76, vL p1, vL p3]) (r := [.ref 0]) (L2 := [some (.ref 76), some (vL p1), none, some (vL p3), none, none]) D230_41 (im_cal cn_230 cl_11_372) (Or.inl rfl) rfl sf_76 rfl rfl rfl rfl hd ⟨rfl, rfl, rfl, trivial⟩ ?_
          refine hP.mono ?_
          rintro _ e35 M29 ⟨a30, rfl, rfl, hP⟩
          refine im_bkS ?_
          obtain ⟨hb31, hP⟩ := hP
          refine im_callV (q := 47) (kd := 1) (y := 215) (n := 1) (ci := 11) (a := 0) (vs := [.ref 0, .ref a30]) (r := []) (L2 := [some (.ref 0), some (.ref a30)]) D230_44 (im_cal cn_230 cl_11_280) (Or.inl rfl) rfl sf_0 rfl rfl rfl rfl hd ⟨rfl, rfl, trivial⟩ ?_
          refine hP.mono ?_
          rintro _ e34 M32 ⟨x33, rfl, rfl, hP⟩
          refine im_bkS ?_
          exact im_iret (q := 48) D230_47 rfl hP
        · exact im_bkE rfl hX
  · exact im_bkE rfl hX

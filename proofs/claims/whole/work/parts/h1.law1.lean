/-! THE LAW: its calls of the class -/
theorem D150_0 {g : im_g} : im_D g 150 0 (.aload 6) 2 := im_D.of (by decide +kernel)
theorem D150_2 {g : im_g} : im_D g 150 2 (.iconst 0) 3 := im_D.of (by decide +kernel)
theorem D150_3 {g : im_g} : im_D g 150 3 (.aload_n 0) 4 := im_D.of (by decide +kernel)
theorem D150_4 {g : im_g} : im_D g 150 4 (.iload_n 1) 5 := im_D.of (by decide +kernel)
theorem D150_5 {g : im_g} : im_D g 150 5 (.iload_n 2) 6 := im_D.of (by decide +kernel)
theorem D150_6 {g : im_g} : im_D g 150 6 (.iload_n 3) 7 := im_D.of (by decide +kernel)
theorem D150_7 {g : im_g} : im_D g 150 7 (.iload 4) 9 := im_D.of (by decide +kernel)
theorem D150_9 {g : im_g} : im_D g 150 9 (.iload 5) 11 := im_D.of (by decide +kernel)
theorem D150_11 {g : im_g} : im_D g 150 11 (.invokevirtual 7) 14 := im_D.of (by decide +kernel)
theorem D150_14 {g : im_g} : im_D g 150 14 (.i2l) 15 := im_D.of (by decide +kernel)
theorem D150_15 {g : im_g} : im_D g 150 15 (.lastore) 16 := im_D.of (by decide +kernel)
theorem D150_16 {g : im_g} : im_D g 150 16 (.goto 11) 19 := im_D.of (by decide +kernel)
theorem D150_27 {g : im_g} : im_D g 150 27 (.iconst 0) 28 := im_D.of (by decide +kernel)
theorem D150_28 {g : im_g} : im_D g 150 28 (.ireturn) 29 := im_D.of (by decide +kernel)
theorem D154_0 {g : im_g} : im_D g 154 0 (.aload_n 2) 1 := im_D.of (by decide +kernel)
theorem D154_1 {g : im_g} : im_D g 154 1 (.iconst 0) 2 := im_D.of (by decide +kernel)
theorem D154_2 {g : im_g} : im_D g 154 2 (.aload_n 0) 3 := im_D.of (by decide +kernel)
theorem D154_3 {g : im_g} : im_D g 154 3 (.iload_n 1) 4 := im_D.of (by decide +kernel)
theorem D154_4 {g : im_g} : im_D g 154 4 (.invokevirtual 17) 7 := im_D.of (by decide +kernel)
theorem D154_7 {g : im_g} : im_D g 154 7 (.i2l) 8 := im_D.of (by decide +kernel)
theorem D154_8 {g : im_g} : im_D g 154 8 (.lastore) 9 := im_D.of (by decide +kernel)
theorem D154_9 {g : im_g} : im_D g 154 9 (.goto 9) 12 := im_D.of (by decide +kernel)
theorem D154_18 {g : im_g} : im_D g 154 18 (.iconst 0) 19 := im_D.of (by decide +kernel)
theorem D154_19 {g : im_g} : im_D g 154 19 (.ireturn) 20 := im_D.of (by decide +kernel)
theorem D156_0 {g : im_g} : im_D g 156 0 (.aload_n 1) 1 := im_D.of (by decide +kernel)
theorem D156_1 {g : im_g} : im_D g 156 1 (.iconst 0) 2 := im_D.of (by decide +kernel)
theorem D156_2 {g : im_g} : im_D g 156 2 (.aload_n 0) 3 := im_D.of (by decide +kernel)
theorem D156_3 {g : im_g} : im_D g 156 3 (.invokevirtual 21) 6 := im_D.of (by decide +kernel)
theorem D156_6 {g : im_g} : im_D g 156 6 (.i2l) 7 := im_D.of (by decide +kernel)
theorem D156_7 {g : im_g} : im_D g 156 7 (.lastore) 8 := im_D.of (by decide +kernel)
theorem D156_8 {g : im_g} : im_D g 156 8 (.goto 6) 11 := im_D.of (by decide +kernel)
theorem D156_14 {g : im_g} : im_D g 156 14 (.iconst 0) 15 := im_D.of (by decide +kernel)
theorem D156_15 {g : im_g} : im_D g 156 15 (.ireturn) 16 := im_D.of (by decide +kernel)
theorem D158_0 {g : im_g} : im_D g 158 0 (.aload_n 2) 1 := im_D.of (by decide +kernel)
theorem D158_1 {g : im_g} : im_D g 158 1 (.iconst 0) 2 := im_D.of (by decide +kernel)
theorem D158_2 {g : im_g} : im_D g 158 2 (.aload_n 0) 3 := im_D.of (by decide +kernel)
theorem D158_3 {g : im_g} : im_D g 158 3 (.iload_n 1) 4 := im_D.of (by decide +kernel)
theorem D158_4 {g : im_g} : im_D g 158 4 (.invokevirtual 25) 7 := im_D.of (by decide +kernel)
theorem D158_7 {g : im_g} : im_D g 158 7 (.lastore) 8 := im_D.of (by decide +kernel)
theorem D158_8 {g : im_g} : im_D g 158 8 (.goto 6) 11 := im_D.of (by decide +kernel)
theorem D158_14 {g : im_g} : im_D g 158 14 (.iconst 0) 15 := im_D.of (by decide +kernel)
theorem D158_15 {g : im_g} : im_D g 158 15 (.ireturn) 16 := im_D.of (by decide +kernel)
theorem D160_0 {g : im_g} : im_D g 160 0 (.aload_n 1) 1 := im_D.of (by decide +kernel)
theorem D160_1 {g : im_g} : im_D g 160 1 (.iconst 0) 2 := im_D.of (by decide +kernel)
theorem D160_2 {g : im_g} : im_D g 160 2 (.aload_n 0) 3 := im_D.of (by decide +kernel)
theorem D160_3 {g : im_g} : im_D g 160 3 (.invokevirtual 29) 6 := im_D.of (by decide +kernel)
theorem D160_6 {g : im_g} : im_D g 160 6 (.i2l) 7 := im_D.of (by decide +kernel)
theorem D160_7 {g : im_g} : im_D g 160 7 (.lastore) 8 := im_D.of (by decide +kernel)
theorem D160_8 {g : im_g} : im_D g 160 8 (.goto 6) 11 := im_D.of (by decide +kernel)
theorem D160_14 {g : im_g} : im_D g 160 14 (.iconst 0) 15 := im_D.of (by decide +kernel)
theorem D160_15 {g : im_g} : im_D g 160 15 (.ireturn) 16 := im_D.of (by decide +kernel)
theorem D163_0 {g : im_g} : im_D g 163 0 (.aload_n 2) 1 := im_D.of (by decide +kernel)
theorem D163_1 {g : im_g} : im_D g 163 1 (.iconst 0) 2 := im_D.of (by decide +kernel)
theorem D163_2 {g : im_g} : im_D g 163 2 (.aload_n 0) 3 := im_D.of (by decide +kernel)
theorem D163_3 {g : im_g} : im_D g 163 3 (.iload_n 1) 4 := im_D.of (by decide +kernel)
theorem D163_4 {g : im_g} : im_D g 163 4 (.invokevirtual 32) 7 := im_D.of (by decide +kernel)
theorem D163_7 {g : im_g} : im_D g 163 7 (.i2l) 8 := im_D.of (by decide +kernel)
theorem D163_8 {g : im_g} : im_D g 163 8 (.lastore) 9 := im_D.of (by decide +kernel)
theorem D163_9 {g : im_g} : im_D g 163 9 (.goto 9) 12 := im_D.of (by decide +kernel)
theorem D163_18 {g : im_g} : im_D g 163 18 (.iconst 0) 19 := im_D.of (by decide +kernel)
theorem D163_19 {g : im_g} : im_D g 163 19 (.ireturn) 20 := im_D.of (by decide +kernel)
theorem D170_0 {g : im_g} : im_D g 170 0 (.aload_n 2) 1 := im_D.of (by decide +kernel)
theorem D170_1 {g : im_g} : im_D g 170 1 (.iconst 0) 2 := im_D.of (by decide +kernel)
theorem D170_2 {g : im_g} : im_D g 170 2 (.aload_n 0) 3 := im_D.of (by decide +kernel)
theorem D170_3 {g : im_g} : im_D g 170 3 (.iload_n 1) 4 := im_D.of (by decide +kernel)
theorem D170_4 {g : im_g} : im_D g 170 4 (.invokevirtual 37) 7 := im_D.of (by decide +kernel)
theorem D170_7 {g : im_g} : im_D g 170 7 (.i2l) 8 := im_D.of (by decide +kernel)
theorem D170_8 {g : im_g} : im_D g 170 8 (.lastore) 9 := im_D.of (by decide +kernel)
theorem D170_9 {g : im_g} : im_D g 170 9 (.goto 9) 12 := im_D.of (by decide +kernel)
theorem D170_18 {g : im_g} : im_D g 170 18 (.iconst 0) 19 := im_D.of (by decide +kernel)
theorem D170_19 {g : im_g} : im_D g 170 19 (.ireturn) 20 := im_D.of (by decide +kernel)
theorem D172_0 {g : im_g} : im_D g 172 0 (.aload_n 2) 1 := im_D.of (by decide +kernel)
theorem D172_1 {g : im_g} : im_D g 172 1 (.iconst 0) 2 := im_D.of (by decide +kernel)
theorem D172_2 {g : im_g} : im_D g 172 2 (.aload_n 0) 3 := im_D.of (by decide +kernel)
theorem D172_3 {g : im_g} : im_D g 172 3 (.iload_n 1) 4 := im_D.of (by decide +kernel)
theorem D172_4 {g : im_g} : im_D g 172 4 (.invokevirtual 40) 7 := im_D.of (by decide +kernel)
theorem D172_7 {g : im_g} : im_D g 172 7 (.i2l) 8 := im_D.of (by decide +kernel)
theorem D172_8 {g : im_g} : im_D g 172 8 (.lastore) 9 := im_D.of (by decide +kernel)
theorem D172_9 {g : im_g} : im_D g 172 9 (.goto 9) 12 := im_D.of (by decide +kernel)
theorem D172_18 {g : im_g} : im_D g 172 18 (.iconst 0) 19 := im_D.of (by decide +kernel)
theorem D172_19 {g : im_g} : im_D g 172 19 (.ireturn) 20 := im_D.of (by decide +kernel)
theorem D188_0 {g : im_g} : im_D g 188 0 (.aload_n 3) 1 := im_D.of (by decide +kernel)
theorem D188_1 {g : im_g} : im_D g 188 1 (.iconst 0) 2 := im_D.of (by decide +kernel)
theorem D188_2 {g : im_g} : im_D g 188 2 (.aload_n 0) 3 := im_D.of (by decide +kernel)
theorem D188_3 {g : im_g} : im_D g 188 3 (.iload_n 1) 4 := im_D.of (by decide +kernel)
theorem D188_4 {g : im_g} : im_D g 188 4 (.iload_n 2) 5 := im_D.of (by decide +kernel)
theorem D188_5 {g : im_g} : im_D g 188 5 (.invokevirtual 43) 8 := im_D.of (by decide +kernel)
theorem D188_8 {g : im_g} : im_D g 188 8 (.lastore) 9 := im_D.of (by decide +kernel)
theorem D188_9 {g : im_g} : im_D g 188 9 (.goto 15) 12 := im_D.of (by decide +kernel)
theorem D188_24 {g : im_g} : im_D g 188 24 (.iconst 0) 25 := im_D.of (by decide +kernel)
theorem D188_25 {g : im_g} : im_D g 188 25 (.ireturn) 26 := im_D.of (by decide +kernel)
theorem D196_0 {g : im_g} : im_D g 196 0 (.aload_n 3) 1 := im_D.of (by decide +kernel)
theorem D196_1 {g : im_g} : im_D g 196 1 (.iconst 0) 2 := im_D.of (by decide +kernel)
theorem D196_2 {g : im_g} : im_D g 196 2 (.aload_n 0) 3 := im_D.of (by decide +kernel)
theorem D196_3 {g : im_g} : im_D g 196 3 (.lload_n 1) 4 := im_D.of (by decide +kernel)
theorem D196_4 {g : im_g} : im_D g 196 4 (.invokevirtual 47) 7 := im_D.of (by decide +kernel)
theorem D196_7 {g : im_g} : im_D g 196 7 (.i2l) 8 := im_D.of (by decide +kernel)
theorem D196_8 {g : im_g} : im_D g 196 8 (.lastore) 9 := im_D.of (by decide +kernel)
theorem D196_9 {g : im_g} : im_D g 196 9 (.goto 11) 12 := im_D.of (by decide +kernel)
theorem D196_20 {g : im_g} : im_D g 196 20 (.iconst 0) 21 := im_D.of (by decide +kernel)
theorem D196_21 {g : im_g} : im_D g 196 21 (.ireturn) 22 := im_D.of (by decide +kernel)
theorem D198_0 {g : im_g} : im_D g 198 0 (.aload_n 1) 1 := im_D.of (by decide +kernel)
theorem D198_1 {g : im_g} : im_D g 198 1 (.iconst 0) 2 := im_D.of (by decide +kernel)
theorem D198_2 {g : im_g} : im_D g 198 2 (.aload_n 0) 3 := im_D.of (by decide +kernel)
theorem D198_3 {g : im_g} : im_D g 198 3 (.invokevirtual 51) 6 := im_D.of (by decide +kernel)
theorem D198_6 {g : im_g} : im_D g 198 6 (.i2l) 7 := im_D.of (by decide +kernel)
theorem D198_7 {g : im_g} : im_D g 198 7 (.lastore) 8 := im_D.of (by decide +kernel)
theorem D198_8 {g : im_g} : im_D g 198 8 (.goto 6) 11 := im_D.of (by decide +kernel)
theorem D198_14 {g : im_g} : im_D g 198 14 (.iconst 0) 15 := im_D.of (by decide +kernel)
theorem D198_15 {g : im_g} : im_D g 198 15 (.ireturn) 16 := im_D.of (by decide +kernel)
theorem D200_0 {g : im_g} : im_D g 200 0 (.aload 5) 2 := im_D.of (by decide +kernel)
theorem D200_2 {g : im_g} : im_D g 200 2 (.iconst 0) 3 := im_D.of (by decide +kernel)
theorem D200_3 {g : im_g} : im_D g 200 3 (.aload_n 0) 4 := im_D.of (by decide +kernel)
theorem D200_4 {g : im_g} : im_D g 200 4 (.iload_n 1) 5 := im_D.of (by decide +kernel)
theorem D200_5 {g : im_g} : im_D g 200 5 (.iload_n 2) 6 := im_D.of (by decide +kernel)
theorem D200_6 {g : im_g} : im_D g 200 6 (.lload_n 3) 7 := im_D.of (by decide +kernel)
theorem D200_7 {g : im_g} : im_D g 200 7 (.invokevirtual 54) 10 := im_D.of (by decide +kernel)
theorem D200_10 {g : im_g} : im_D g 200 10 (.i2l) 11 := im_D.of (by decide +kernel)
theorem D200_11 {g : im_g} : im_D g 200 11 (.lastore) 12 := im_D.of (by decide +kernel)
theorem D200_12 {g : im_g} : im_D g 200 12 (.goto 15) 15 := im_D.of (by decide +kernel)
theorem D200_27 {g : im_g} : im_D g 200 27 (.iconst 0) 28 := im_D.of (by decide +kernel)
theorem D200_28 {g : im_g} : im_D g 200 28 (.ireturn) 29 := im_D.of (by decide +kernel)
theorem D202_0 {g : im_g} : im_D g 202 0 (.aload_n 2) 1 := im_D.of (by decide +kernel)
theorem D202_1 {g : im_g} : im_D g 202 1 (.iconst 0) 2 := im_D.of (by decide +kernel)
theorem D202_2 {g : im_g} : im_D g 202 2 (.aload_n 0) 3 := im_D.of (by decide +kernel)
theorem D202_3 {g : im_g} : im_D g 202 3 (.iload_n 1) 4 := im_D.of (by decide +kernel)
theorem D202_4 {g : im_g} : im_D g 202 4 (.invokevirtual 58) 7 := im_D.of (by decide +kernel)
theorem D202_7 {g : im_g} : im_D g 202 7 (.i2l) 8 := im_D.of (by decide +kernel)
theorem D202_8 {g : im_g} : im_D g 202 8 (.lastore) 9 := im_D.of (by decide +kernel)
theorem D202_9 {g : im_g} : im_D g 202 9 (.goto 9) 12 := im_D.of (by decide +kernel)
theorem D202_18 {g : im_g} : im_D g 202 18 (.iconst 0) 19 := im_D.of (by decide +kernel)
theorem D202_19 {g : im_g} : im_D g 202 19 (.ireturn) 20 := im_D.of (by decide +kernel)
theorem D204_0 {g : im_g} : im_D g 204 0 (.aload 6) 2 := im_D.of (by decide +kernel)
theorem D204_2 {g : im_g} : im_D g 204 2 (.iconst 0) 3 := im_D.of (by decide +kernel)
theorem D204_3 {g : im_g} : im_D g 204 3 (.aload_n 0) 4 := im_D.of (by decide +kernel)
theorem D204_4 {g : im_g} : im_D g 204 4 (.iload_n 1) 5 := im_D.of (by decide +kernel)
theorem D204_5 {g : im_g} : im_D g 204 5 (.lload_n 2) 6 := im_D.of (by decide +kernel)
theorem D204_6 {g : im_g} : im_D g 204 6 (.lload 4) 8 := im_D.of (by decide +kernel)
theorem D204_8 {g : im_g} : im_D g 204 8 (.invokevirtual 61) 11 := im_D.of (by decide +kernel)
theorem D204_11 {g : im_g} : im_D g 204 11 (.i2l) 12 := im_D.of (by decide +kernel)
theorem D204_12 {g : im_g} : im_D g 204 12 (.lastore) 13 := im_D.of (by decide +kernel)
theorem D204_13 {g : im_g} : im_D g 204 13 (.goto 11) 16 := im_D.of (by decide +kernel)
theorem D204_24 {g : im_g} : im_D g 204 24 (.iconst 0) 25 := im_D.of (by decide +kernel)
theorem D204_25 {g : im_g} : im_D g 204 25 (.ireturn) 26 := im_D.of (by decide +kernel)
theorem D206_0 {g : im_g} : im_D g 206 0 (.aload_n 2) 1 := im_D.of (by decide +kernel)
theorem D206_1 {g : im_g} : im_D g 206 1 (.iconst 0) 2 := im_D.of (by decide +kernel)
theorem D206_2 {g : im_g} : im_D g 206 2 (.aload_n 0) 3 := im_D.of (by decide +kernel)
theorem D206_3 {g : im_g} : im_D g 206 3 (.iload_n 1) 4 := im_D.of (by decide +kernel)
theorem D206_4 {g : im_g} : im_D g 206 4 (.invokevirtual 65) 7 := im_D.of (by decide +kernel)
theorem D206_7 {g : im_g} : im_D g 206 7 (.i2l) 8 := im_D.of (by decide +kernel)
theorem D206_8 {g : im_g} : im_D g 206 8 (.lastore) 9 := im_D.of (by decide +kernel)
theorem D206_9 {g : im_g} : im_D g 206 9 (.goto 9) 12 := im_D.of (by decide +kernel)
theorem D206_18 {g : im_g} : im_D g 206 18 (.iconst 0) 19 := im_D.of (by decide +kernel)
theorem D206_19 {g : im_g} : im_D g 206 19 (.ireturn) 20 := im_D.of (by decide +kernel)
theorem D209_0 {g : im_g} : im_D g 209 0 (.aload_n 3) 1 := im_D.of (by decide +kernel)
theorem D209_1 {g : im_g} : im_D g 209 1 (.iconst 0) 2 := im_D.of (by decide +kernel)
theorem D209_2 {g : im_g} : im_D g 209 2 (.aload_n 0) 3 := im_D.of (by decide +kernel)
theorem D209_3 {g : im_g} : im_D g 209 3 (.iload_n 1) 4 := im_D.of (by decide +kernel)
theorem D209_4 {g : im_g} : im_D g 209 4 (.iload_n 2) 5 := im_D.of (by decide +kernel)
theorem D209_5 {g : im_g} : im_D g 209 5 (.invokevirtual 68) 8 := im_D.of (by decide +kernel)
theorem D209_8 {g : im_g} : im_D g 209 8 (.lastore) 9 := im_D.of (by decide +kernel)
theorem D209_9 {g : im_g} : im_D g 209 9 (.goto 15) 12 := im_D.of (by decide +kernel)
theorem D209_24 {g : im_g} : im_D g 209 24 (.iconst 0) 25 := im_D.of (by decide +kernel)
theorem D209_25 {g : im_g} : im_D g 209 25 (.ireturn) 26 := im_D.of (by decide +kernel)
theorem D212_0 {g : im_g} : im_D g 212 0 (.aload 4) 2 := im_D.of (by decide +kernel)
theorem D212_2 {g : im_g} : im_D g 212 2 (.iconst 0) 3 := im_D.of (by decide +kernel)
theorem D212_3 {g : im_g} : im_D g 212 3 (.aload_n 0) 4 := im_D.of (by decide +kernel)
theorem D212_4 {g : im_g} : im_D g 212 4 (.iload_n 1) 5 := im_D.of (by decide +kernel)
theorem D212_5 {g : im_g} : im_D g 212 5 (.iload_n 2) 6 := im_D.of (by decide +kernel)
theorem D212_6 {g : im_g} : im_D g 212 6 (.iload_n 3) 7 := im_D.of (by decide +kernel)
theorem D212_7 {g : im_g} : im_D g 212 7 (.invokevirtual 71) 10 := im_D.of (by decide +kernel)
theorem D212_10 {g : im_g} : im_D g 212 10 (.i2l) 11 := im_D.of (by decide +kernel)
theorem D212_11 {g : im_g} : im_D g 212 11 (.lastore) 12 := im_D.of (by decide +kernel)
theorem D212_12 {g : im_g} : im_D g 212 12 (.goto 15) 15 := im_D.of (by decide +kernel)
theorem D212_27 {g : im_g} : im_D g 212 27 (.iconst 0) 28 := im_D.of (by decide +kernel)
theorem D212_28 {g : im_g} : im_D g 212 28 (.ireturn) 29 := im_D.of (by decide +kernel)
theorem D216_0 {g : im_g} : im_D g 216 0 (.aload 5) 2 := im_D.of (by decide +kernel)
theorem D216_2 {g : im_g} : im_D g 216 2 (.iconst 0) 3 := im_D.of (by decide +kernel)
theorem D216_3 {g : im_g} : im_D g 216 3 (.aload_n 0) 4 := im_D.of (by decide +kernel)
theorem D216_4 {g : im_g} : im_D g 216 4 (.iload_n 1) 5 := im_D.of (by decide +kernel)
theorem D216_5 {g : im_g} : im_D g 216 5 (.iload_n 2) 6 := im_D.of (by decide +kernel)
theorem D216_6 {g : im_g} : im_D g 216 6 (.iload_n 3) 7 := im_D.of (by decide +kernel)
theorem D216_7 {g : im_g} : im_D g 216 7 (.iload 4) 9 := im_D.of (by decide +kernel)
theorem D216_9 {g : im_g} : im_D g 216 9 (.invokevirtual 75) 12 := im_D.of (by decide +kernel)
theorem D216_12 {g : im_g} : im_D g 216 12 (.lastore) 13 := im_D.of (by decide +kernel)
theorem D216_13 {g : im_g} : im_D g 216 13 (.goto 15) 16 := im_D.of (by decide +kernel)
theorem D216_28 {g : im_g} : im_D g 216 28 (.iconst 0) 29 := im_D.of (by decide +kernel)
theorem D216_29 {g : im_g} : im_D g 216 29 (.ireturn) 30 := im_D.of (by decide +kernel)
theorem D218_0 {g : im_g} : im_D g 218 0 (.aload_n 2) 1 := im_D.of (by decide +kernel)
theorem D218_1 {g : im_g} : im_D g 218 1 (.iconst 0) 2 := im_D.of (by decide +kernel)
theorem D218_2 {g : im_g} : im_D g 218 2 (.aload_n 0) 3 := im_D.of (by decide +kernel)
theorem D218_3 {g : im_g} : im_D g 218 3 (.iload_n 1) 4 := im_D.of (by decide +kernel)
theorem D218_4 {g : im_g} : im_D g 218 4 (.invokevirtual 79) 7 := im_D.of (by decide +kernel)
theorem D218_7 {g : im_g} : im_D g 218 7 (.i2l) 8 := im_D.of (by decide +kernel)
theorem D218_8 {g : im_g} : im_D g 218 8 (.lastore) 9 := im_D.of (by decide +kernel)
theorem D218_9 {g : im_g} : im_D g 218 9 (.goto 9) 12 := im_D.of (by decide +kernel)
theorem D218_18 {g : im_g} : im_D g 218 18 (.iconst 0) 19 := im_D.of (by decide +kernel)
theorem D218_19 {g : im_g} : im_D g 218 19 (.ireturn) 20 := im_D.of (by decide +kernel)
theorem D220_0 {g : im_g} : im_D g 220 0 (.aload_n 3) 1 := im_D.of (by decide +kernel)
theorem D220_1 {g : im_g} : im_D g 220 1 (.iconst 0) 2 := im_D.of (by decide +kernel)
theorem D220_2 {g : im_g} : im_D g 220 2 (.aload_n 0) 3 := im_D.of (by decide +kernel)
theorem D220_3 {g : im_g} : im_D g 220 3 (.iload_n 1) 4 := im_D.of (by decide +kernel)
theorem D220_4 {g : im_g} : im_D g 220 4 (.iload_n 2) 5 := im_D.of (by decide +kernel)
theorem D220_5 {g : im_g} : im_D g 220 5 (.invokevirtual 82) 8 := im_D.of (by decide +kernel)
theorem D220_8 {g : im_g} : im_D g 220 8 (.lastore) 9 := im_D.of (by decide +kernel)
theorem D220_9 {g : im_g} : im_D g 220 9 (.goto 15) 12 := im_D.of (by decide +kernel)
theorem D220_24 {g : im_g} : im_D g 220 24 (.iconst 0) 25 := im_D.of (by decide +kernel)
theorem D220_25 {g : im_g} : im_D g 220 25 (.ireturn) 26 := im_D.of (by decide +kernel)
theorem D223_0 {g : im_g} : im_D g 223 0 (.aload_n 3) 1 := im_D.of (by decide +kernel)
theorem D223_1 {g : im_g} : im_D g 223 1 (.iconst 0) 2 := im_D.of (by decide +kernel)
theorem D223_2 {g : im_g} : im_D g 223 2 (.aload_n 0) 3 := im_D.of (by decide +kernel)
theorem D223_3 {g : im_g} : im_D g 223 3 (.iload_n 1) 4 := im_D.of (by decide +kernel)
theorem D223_4 {g : im_g} : im_D g 223 4 (.iload_n 2) 5 := im_D.of (by decide +kernel)
theorem D223_5 {g : im_g} : im_D g 223 5 (.invokevirtual 85) 8 := im_D.of (by decide +kernel)
theorem D223_8 {g : im_g} : im_D g 223 8 (.i2l) 9 := im_D.of (by decide +kernel)
theorem D223_9 {g : im_g} : im_D g 223 9 (.lastore) 10 := im_D.of (by decide +kernel)
theorem D223_10 {g : im_g} : im_D g 223 10 (.goto 11) 13 := im_D.of (by decide +kernel)
theorem D223_21 {g : im_g} : im_D g 223 21 (.iconst 0) 22 := im_D.of (by decide +kernel)
theorem D223_22 {g : im_g} : im_D g 223 22 (.ireturn) 23 := im_D.of (by decide +kernel)
theorem D225_0 {g : im_g} : im_D g 225 0 (.aload_n 3) 1 := im_D.of (by decide +kernel)
theorem D225_1 {g : im_g} : im_D g 225 1 (.iconst 0) 2 := im_D.of (by decide +kernel)
theorem D225_2 {g : im_g} : im_D g 225 2 (.aload_n 0) 3 := im_D.of (by decide +kernel)
theorem D225_3 {g : im_g} : im_D g 225 3 (.iload_n 1) 4 := im_D.of (by decide +kernel)
theorem D225_4 {g : im_g} : im_D g 225 4 (.iload_n 2) 5 := im_D.of (by decide +kernel)
theorem D225_5 {g : im_g} : im_D g 225 5 (.invokevirtual 89) 8 := im_D.of (by decide +kernel)
theorem D225_8 {g : im_g} : im_D g 225 8 (.lastore) 9 := im_D.of (by decide +kernel)
theorem D225_9 {g : im_g} : im_D g 225 9 (.goto 15) 12 := im_D.of (by decide +kernel)
theorem D225_24 {g : im_g} : im_D g 225 24 (.iconst 0) 25 := im_D.of (by decide +kernel)
theorem D225_25 {g : im_g} : im_D g 225 25 (.ireturn) 26 := im_D.of (by decide +kernel)
theorem D227_0 {g : im_g} : im_D g 227 0 (.aload 5) 2 := im_D.of (by decide +kernel)
theorem D227_2 {g : im_g} : im_D g 227 2 (.iconst 0) 3 := im_D.of (by decide +kernel)
theorem D227_3 {g : im_g} : im_D g 227 3 (.aload_n 0) 4 := im_D.of (by decide +kernel)
theorem D227_4 {g : im_g} : im_D g 227 4 (.lload_n 1) 5 := im_D.of (by decide +kernel)
theorem D227_5 {g : im_g} : im_D g 227 5 (.lload_n 3) 6 := im_D.of (by decide +kernel)
theorem D227_6 {g : im_g} : im_D g 227 6 (.invokevirtual 92) 9 := im_D.of (by decide +kernel)
theorem D227_9 {g : im_g} : im_D g 227 9 (.i2l) 10 := im_D.of (by decide +kernel)
theorem D227_10 {g : im_g} : im_D g 227 10 (.lastore) 11 := im_D.of (by decide +kernel)
theorem D227_11 {g : im_g} : im_D g 227 11 (.goto 11) 14 := im_D.of (by decide +kernel)
theorem D227_22 {g : im_g} : im_D g 227 22 (.iconst 0) 23 := im_D.of (by decide +kernel)
theorem D227_23 {g : im_g} : im_D g 227 23 (.ireturn) 24 := im_D.of (by decide +kernel)
theorem D229_0 {g : im_g} : im_D g 229 0 (.aload 5) 2 := im_D.of (by decide +kernel)
theorem D229_2 {g : im_g} : im_D g 229 2 (.iconst 0) 3 := im_D.of (by decide +kernel)
theorem D229_3 {g : im_g} : im_D g 229 3 (.aload_n 0) 4 := im_D.of (by decide +kernel)
theorem D229_4 {g : im_g} : im_D g 229 4 (.lload_n 1) 5 := im_D.of (by decide +kernel)
theorem D229_5 {g : im_g} : im_D g 229 5 (.lload_n 3) 6 := im_D.of (by decide +kernel)
theorem D229_6 {g : im_g} : im_D g 229 6 (.invokevirtual 96) 9 := im_D.of (by decide +kernel)
theorem D229_9 {g : im_g} : im_D g 229 9 (.i2l) 10 := im_D.of (by decide +kernel)
theorem D229_10 {g : im_g} : im_D g 229 10 (.lastore) 11 := im_D.of (by decide +kernel)
theorem D229_11 {g : im_g} : im_D g 229 11 (.goto 11) 14 := im_D.of (by decide +kernel)
theorem D229_22 {g : im_g} : im_D g 229 22 (.iconst 0) 23 := im_D.of (by decide +kernel)
theorem D229_23 {g : im_g} : im_D g 229 23 (.ireturn) 24 := im_D.of (by decide +kernel)
theorem D231_0 {g : im_g} : im_D g 231 0 (.aload 4) 2 := im_D.of (by decide +kernel)
theorem D231_2 {g : im_g} : im_D g 231 2 (.iconst 0) 3 := im_D.of (by decide +kernel)
theorem D231_3 {g : im_g} : im_D g 231 3 (.aload_n 0) 4 := im_D.of (by decide +kernel)
theorem D231_4 {g : im_g} : im_D g 231 4 (.lload_n 1) 5 := im_D.of (by decide +kernel)
theorem D231_5 {g : im_g} : im_D g 231 5 (.iload_n 3) 6 := im_D.of (by decide +kernel)
theorem D231_6 {g : im_g} : im_D g 231 6 (.invokevirtual 99) 9 := im_D.of (by decide +kernel)
theorem D231_9 {g : im_g} : im_D g 231 9 (.i2l) 10 := im_D.of (by decide +kernel)
theorem D231_10 {g : im_g} : im_D g 231 10 (.lastore) 11 := im_D.of (by decide +kernel)
theorem D231_11 {g : im_g} : im_D g 231 11 (.goto 11) 14 := im_D.of (by decide +kernel)
theorem D231_22 {g : im_g} : im_D g 231 22 (.iconst 0) 23 := im_D.of (by decide +kernel)
theorem D231_23 {g : im_g} : im_D g 231 23 (.ireturn) 24 := im_D.of (by decide +kernel)
theorem D234_0 {g : im_g} : im_D g 234 0 (.aload_n 1) 1 := im_D.of (by decide +kernel)
theorem D234_1 {g : im_g} : im_D g 234 1 (.iconst 0) 2 := im_D.of (by decide +kernel)
theorem D234_2 {g : im_g} : im_D g 234 2 (.aload_n 0) 3 := im_D.of (by decide +kernel)
theorem D234_3 {g : im_g} : im_D g 234 3 (.invokevirtual 103) 6 := im_D.of (by decide +kernel)
theorem D234_6 {g : im_g} : im_D g 234 6 (.i2l) 7 := im_D.of (by decide +kernel)
theorem D234_7 {g : im_g} : im_D g 234 7 (.lastore) 8 := im_D.of (by decide +kernel)
theorem D234_8 {g : im_g} : im_D g 234 8 (.goto 6) 11 := im_D.of (by decide +kernel)
theorem D234_14 {g : im_g} : im_D g 234 14 (.iconst 0) 15 := im_D.of (by decide +kernel)
theorem D234_15 {g : im_g} : im_D g 234 15 (.ireturn) 16 := im_D.of (by decide +kernel)
theorem D236_0 {g : im_g} : im_D g 236 0 (.aload 5) 2 := im_D.of (by decide +kernel)
theorem D236_2 {g : im_g} : im_D g 236 2 (.iconst 0) 3 := im_D.of (by decide +kernel)
theorem D236_3 {g : im_g} : im_D g 236 3 (.aload_n 0) 4 := im_D.of (by decide +kernel)
theorem D236_4 {g : im_g} : im_D g 236 4 (.iload_n 1) 5 := im_D.of (by decide +kernel)
theorem D236_5 {g : im_g} : im_D g 236 5 (.iload_n 2) 6 := im_D.of (by decide +kernel)
theorem D236_6 {g : im_g} : im_D g 236 6 (.iload_n 3) 7 := im_D.of (by decide +kernel)
theorem D236_7 {g : im_g} : im_D g 236 7 (.iload 4) 9 := im_D.of (by decide +kernel)
theorem D236_9 {g : im_g} : im_D g 236 9 (.invokevirtual 106) 12 := im_D.of (by decide +kernel)
theorem D236_12 {g : im_g} : im_D g 236 12 (.i2l) 13 := im_D.of (by decide +kernel)
theorem D236_13 {g : im_g} : im_D g 236 13 (.lastore) 14 := im_D.of (by decide +kernel)
theorem D236_14 {g : im_g} : im_D g 236 14 (.goto 15) 17 := im_D.of (by decide +kernel)
theorem D236_29 {g : im_g} : im_D g 236 29 (.iconst 0) 30 := im_D.of (by decide +kernel)
theorem D236_30 {g : im_g} : im_D g 236 30 (.ireturn) 31 := im_D.of (by decide +kernel)
theorem D247_0 {g : im_g} : im_D g 247 0 (.aload_n 1) 1 := im_D.of (by decide +kernel)
theorem D247_1 {g : im_g} : im_D g 247 1 (.iconst 0) 2 := im_D.of (by decide +kernel)
theorem D247_2 {g : im_g} : im_D g 247 2 (.aload_n 0) 3 := im_D.of (by decide +kernel)
theorem D247_3 {g : im_g} : im_D g 247 3 (.invokevirtual 110) 6 := im_D.of (by decide +kernel)
theorem D247_6 {g : im_g} : im_D g 247 6 (.i2l) 7 := im_D.of (by decide +kernel)
theorem D247_7 {g : im_g} : im_D g 247 7 (.lastore) 8 := im_D.of (by decide +kernel)
theorem D247_8 {g : im_g} : im_D g 247 8 (.goto 6) 11 := im_D.of (by decide +kernel)
theorem D247_14 {g : im_g} : im_D g 247 14 (.iconst 0) 15 := im_D.of (by decide +kernel)
theorem D247_15 {g : im_g} : im_D g 247 15 (.ireturn) 16 := im_D.of (by decide +kernel)
theorem D249_0 {g : im_g} : im_D g 249 0 (.aload_n 0) 1 := im_D.of (by decide +kernel)
theorem D249_1 {g : im_g} : im_D g 249 1 (.iload_n 1) 2 := im_D.of (by decide +kernel)
theorem D249_2 {g : im_g} : im_D g 249 2 (.invokevirtual 113) 5 := im_D.of (by decide +kernel)
theorem D249_5 {g : im_g} : im_D g 249 5 (.goto 9) 8 := im_D.of (by decide +kernel)
theorem D249_14 {g : im_g} : im_D g 249 14 (.iconst 0) 15 := im_D.of (by decide +kernel)
theorem D249_15 {g : im_g} : im_D g 249 15 (.ireturn) 16 := im_D.of (by decide +kernel)
theorem D251_0 {g : im_g} : im_D g 251 0 (.aload_n 2) 1 := im_D.of (by decide +kernel)
theorem D251_1 {g : im_g} : im_D g 251 1 (.iconst 0) 2 := im_D.of (by decide +kernel)
theorem D251_2 {g : im_g} : im_D g 251 2 (.aload_n 0) 3 := im_D.of (by decide +kernel)
theorem D251_3 {g : im_g} : im_D g 251 3 (.iload_n 1) 4 := im_D.of (by decide +kernel)
theorem D251_4 {g : im_g} : im_D g 251 4 (.invokevirtual 117) 7 := im_D.of (by decide +kernel)
theorem D251_7 {g : im_g} : im_D g 251 7 (.i2l) 8 := im_D.of (by decide +kernel)
theorem D251_8 {g : im_g} : im_D g 251 8 (.lastore) 9 := im_D.of (by decide +kernel)
theorem D251_9 {g : im_g} : im_D g 251 9 (.goto 6) 12 := im_D.of (by decide +kernel)
theorem D251_15 {g : im_g} : im_D g 251 15 (.iconst 0) 16 := im_D.of (by decide +kernel)
theorem D251_16 {g : im_g} : im_D g 251 16 (.ireturn) 17 := im_D.of (by decide +kernel)
theorem D253_0 {g : im_g} : im_D g 253 0 (.aload_n 3) 1 := im_D.of (by decide +kernel)
theorem D253_1 {g : im_g} : im_D g 253 1 (.iconst 0) 2 := im_D.of (by decide +kernel)
theorem D253_2 {g : im_g} : im_D g 253 2 (.aload_n 0) 3 := im_D.of (by decide +kernel)
theorem D253_3 {g : im_g} : im_D g 253 3 (.iload_n 1) 4 := im_D.of (by decide +kernel)
theorem D253_4 {g : im_g} : im_D g 253 4 (.iload_n 2) 5 := im_D.of (by decide +kernel)
theorem D253_5 {g : im_g} : im_D g 253 5 (.invokevirtual 120) 8 := im_D.of (by decide +kernel)
theorem D253_8 {g : im_g} : im_D g 253 8 (.i2l) 9 := im_D.of (by decide +kernel)
theorem D253_9 {g : im_g} : im_D g 253 9 (.lastore) 10 := im_D.of (by decide +kernel)
theorem D253_10 {g : im_g} : im_D g 253 10 (.goto 15) 13 := im_D.of (by decide +kernel)
theorem D253_25 {g : im_g} : im_D g 253 25 (.iconst 0) 26 := im_D.of (by decide +kernel)
theorem D253_26 {g : im_g} : im_D g 253 26 (.ireturn) 27 := im_D.of (by decide +kernel)
theorem D255_0 {g : im_g} : im_D g 255 0 (.aload_n 0) 1 := im_D.of (by decide +kernel)
theorem D255_1 {g : im_g} : im_D g 255 1 (.invokevirtual 124) 4 := im_D.of (by decide +kernel)
theorem D255_4 {g : im_g} : im_D g 255 4 (.goto 6) 7 := im_D.of (by decide +kernel)
theorem D255_10 {g : im_g} : im_D g 255 10 (.iconst 0) 11 := im_D.of (by decide +kernel)
theorem D255_11 {g : im_g} : im_D g 255 11 (.ireturn) 12 := im_D.of (by decide +kernel)
theorem D257_0 {g : im_g} : im_D g 257 0 (.aload_n 2) 1 := im_D.of (by decide +kernel)
theorem D257_1 {g : im_g} : im_D g 257 1 (.iconst 0) 2 := im_D.of (by decide +kernel)
theorem D257_2 {g : im_g} : im_D g 257 2 (.aload_n 0) 3 := im_D.of (by decide +kernel)
theorem D257_3 {g : im_g} : im_D g 257 3 (.iload_n 1) 4 := im_D.of (by decide +kernel)
theorem D257_4 {g : im_g} : im_D g 257 4 (.invokevirtual 127) 7 := im_D.of (by decide +kernel)
theorem D257_7 {g : im_g} : im_D g 257 7 (.i2l) 8 := im_D.of (by decide +kernel)
theorem D257_8 {g : im_g} : im_D g 257 8 (.lastore) 9 := im_D.of (by decide +kernel)
theorem D257_9 {g : im_g} : im_D g 257 9 (.goto 6) 12 := im_D.of (by decide +kernel)
theorem D257_15 {g : im_g} : im_D g 257 15 (.iconst 0) 16 := im_D.of (by decide +kernel)
theorem D257_16 {g : im_g} : im_D g 257 16 (.ireturn) 17 := im_D.of (by decide +kernel)
set_option maxRecDepth 20000 in
set_option maxHeartbeats 4000000 in
theorem w_feed_0 {g : im_g} {d : Nat} {e : im_E} {M : im_M} {K : im_K} {p1 p2 p3 p4 p5 : Int} (hd : 1 ≤ d) (hP : im_T g (d - 1) 151 0 [some (.ref 0), some (vI p1), some (vI p2), some (vI p3), some (vI p4), some (vI p5)] [] e M (im_rx (im_ri (fun x4 e_ M1 => e = e_ ∧ (im_i32 x4) ∧ K (.inl (some (vI 0))) e (im_u M1 7081 0 x4))) (fun E_ e_ M_ => (E_ = "java/lang/IllegalStateException" ∨ E_ = "java/lang/IllegalArgumentException") ∧ (E_ = "java/lang/IllegalStateException" → K (.inl (some (vI 1))) e_ M_) ∧ (E_ = "java/lang/IllegalArgumentException" → K (.inl (some (vI 2))) e_ M_)))) : im_T g d 150 0 [some (.ref 0), some (vI p1), some (vI p2), some (vI p3), some (vI p4), some (vI p5), some (.ref 7081), none] [] e M K := by
  refine im_ld (q := 2) (i := 6) D150_0 rfl rfl rfl ?_
  refine im_iconst (q := 3) D150_2 ?_
  refine im_ld (q := 4) (i := 0) D150_3 rfl rfl rfl ?_
  refine im_ld (q := 5) (i := 1) D150_4 rfl rfl rfl ?_
  refine im_ld (q := 6) (i := 2) D150_5 rfl rfl rfl ?_
  refine im_ld (q := 7) (i := 3) D150_6 rfl rfl rfl ?_
  refine im_ld (q := 9) (i := 4) D150_7 rfl rfl rfl ?_
  refine im_ld (q := 11) (i := 5) D150_9 rfl rfl rfl ?_
  refine im_callV (q := 14) (kd := 1) (y := 151) (n := 5) (ci := 11) (a := 0) (vs := [.ref 0, vI p1, vI p2, vI p3, vI p4, vI p5]) (r := [vI 0, .ref 7081]) (L2 := [some (.ref 0), some (vI p1), some (vI p2), some (vI p3), some (vI p4), some (vI p5)]) D150_11 (im_cal cn_150 cl_13_7) (Or.inl rfl) rfl sf_0 rfl rfl rfl rfl hd ⟨rfl, rfl, rfl, rfl, rfl, rfl, trivial⟩ ?_
  refine hP.mono ?_
  rintro _ e6 M1 (⟨x4, rfl, rfl, hP⟩ | ⟨E_, rfl, hX⟩)
  · refine im_bkS ?_
    obtain ⟨hg5, hP⟩ := hP
    refine im_i2l (q := 15) D150_14 hg5 ?_
    refine im_last (q := 16) D150_15 sf_7081 (by decide) (by decide) (by decide) (im_32_64 hg5) ?_
    refine im_goto (q := 19) (t := 27) D150_16 rfl ?_
    refine im_iconst (q := 28) D150_27 ?_
    exact im_iret (q := 29) D150_28 rfl hP
  · rcases hX.1 with rfl | rfl
    · exact im_bkE rfl (hX.2.1 rfl)
    · exact im_bkE rfl (hX.2.2 rfl)
set_option maxRecDepth 20000 in
set_option maxHeartbeats 4000000 in
theorem w_trim_0 {g : im_g} {d : Nat} {e : im_E} {M : im_M} {K : im_K} {p1 : Int} (hd : 1 ≤ d) (hP : im_T g (d - 1) 155 0 [some (.ref 0), some (vI p1)] [] e M (im_rx (im_ri (fun x4 e_ M1 => e = e_ ∧ (im_i32 x4) ∧ K (.inl (some (vI 0))) e (im_u M1 7081 0 x4))) (fun E_ e_ M_ => (E_ = "java/lang/IllegalStateException" ∨ E_ = "java/lang/IllegalArgumentException") ∧ (E_ = "java/lang/IllegalStateException" → K (.inl (some (vI 1))) e_ M_) ∧ (E_ = "java/lang/IllegalArgumentException" → K (.inl (some (vI 2))) e_ M_)))) : im_T g d 154 0 [some (.ref 0), some (vI p1), some (.ref 7081), none] [] e M K := by
  refine im_ld (q := 1) (i := 2) D154_0 rfl rfl rfl ?_
  refine im_iconst (q := 2) D154_1 ?_
  refine im_ld (q := 3) (i := 0) D154_2 rfl rfl rfl ?_
  refine im_ld (q := 4) (i := 1) D154_3 rfl rfl rfl ?_
  refine im_callV (q := 7) (kd := 1) (y := 155) (n := 1) (ci := 11) (a := 0) (vs := [.ref 0, vI p1]) (r := [vI 0, .ref 7081]) (L2 := [some (.ref 0), some (vI p1)]) D154_4 (im_cal cn_154 cl_13_17) (Or.inl rfl) rfl sf_0 rfl rfl rfl rfl hd ⟨rfl, rfl, trivial⟩ ?_
  refine hP.mono ?_
  rintro _ e6 M1 (⟨x4, rfl, rfl, hP⟩ | ⟨E_, rfl, hX⟩)
  · refine im_bkS ?_
    obtain ⟨hg5, hP⟩ := hP
    refine im_i2l (q := 8) D154_7 hg5 ?_
    refine im_last (q := 9) D154_8 sf_7081 (by decide) (by decide) (by decide) (im_32_64 hg5) ?_
    refine im_goto (q := 12) (t := 18) D154_9 rfl ?_
    refine im_iconst (q := 19) D154_18 ?_
    exact im_iret (q := 20) D154_19 rfl hP
  · rcases hX.1 with rfl | rfl
    · exact im_bkE rfl (hX.2.1 rfl)
    · exact im_bkE rfl (hX.2.2 rfl)
set_option maxRecDepth 20000 in
set_option maxHeartbeats 4000000 in
theorem w_size_0 {g : im_g} {d : Nat} {e : im_E} {M : im_M} {K : im_K} (hd : 1 ≤ d) (hP : im_T g (d - 1) 157 0 [some (.ref 0)] [] e M (im_rx (im_ri (fun x4 e_ M1 => e = e_ ∧ (im_i32 x4) ∧ K (.inl (some (vI 0))) e (im_u M1 7081 0 x4))) (fun E_ e_ M_ => (E_ = "java/lang/IllegalStateException") ∧ (E_ = "java/lang/IllegalStateException" → K (.inl (some (vI 1))) e_ M_)))) : im_T g d 156 0 [some (.ref 0), some (.ref 7081), none] [] e M K := by
  refine im_ld (q := 1) (i := 1) D156_0 rfl rfl rfl ?_
  refine im_iconst (q := 2) D156_1 ?_
  refine im_ld (q := 3) (i := 0) D156_2 rfl rfl rfl ?_
  refine im_callV (q := 6) (kd := 1) (y := 157) (n := 0) (ci := 11) (a := 0) (vs := [.ref 0]) (r := [vI 0, .ref 7081]) (L2 := [some (.ref 0)]) D156_3 (im_cal cn_156 cl_13_21) (Or.inl rfl) rfl sf_0 rfl rfl rfl rfl hd ⟨rfl, trivial⟩ ?_
  refine hP.mono ?_
  rintro _ e6 M1 (⟨x4, rfl, rfl, hP⟩ | ⟨E_, rfl, hX⟩)
  · refine im_bkS ?_
    obtain ⟨hg5, hP⟩ := hP
    refine im_i2l (q := 7) D156_6 hg5 ?_
    refine im_last (q := 8) D156_7 sf_7081 (by decide) (by decide) (by decide) (im_32_64 hg5) ?_
    refine im_goto (q := 11) (t := 14) D156_8 rfl ?_
    refine im_iconst (q := 15) D156_14 ?_
    exact im_iret (q := 16) D156_15 rfl hP
  · rcases hX.1 with rfl
    · exact im_bkE rfl (hX.2 rfl)
set_option maxRecDepth 20000 in
set_option maxHeartbeats 4000000 in
theorem w_word_0 {g : im_g} {d : Nat} {e : im_E} {M : im_M} {K : im_K} {p1 : Int} (hd : 1 ≤ d) (hP : im_T g (d - 1) 159 0 [some (.ref 0), some (vI p1), none, none, none] [] e M (im_rx (im_rl (fun x4 e_ M1 => e = e_ ∧ (im_i64 x4) ∧ K (.inl (some (vI 0))) e (im_u M1 7081 0 x4))) (fun E_ e_ M_ => (E_ = "java/lang/IllegalStateException") ∧ (E_ = "java/lang/IllegalStateException" → K (.inl (some (vI 1))) e_ M_)))) : im_T g d 158 0 [some (.ref 0), some (vI p1), some (.ref 7081), none] [] e M K := by
  refine im_ld (q := 1) (i := 2) D158_0 rfl rfl rfl ?_
  refine im_iconst (q := 2) D158_1 ?_
  refine im_ld (q := 3) (i := 0) D158_2 rfl rfl rfl ?_
  refine im_ld (q := 4) (i := 1) D158_3 rfl rfl rfl ?_
  refine im_callV (q := 7) (kd := 1) (y := 159) (n := 1) (ci := 11) (a := 0) (vs := [.ref 0, vI p1]) (r := [vI 0, .ref 7081]) (L2 := [some (.ref 0), some (vI p1), none, none, none]) D158_4 (im_cal cn_158 cl_13_25) (Or.inl rfl) rfl sf_0 rfl rfl rfl rfl hd ⟨rfl, rfl, trivial⟩ ?_
  refine hP.mono ?_
  rintro _ e6 M1 (⟨x4, rfl, rfl, hP⟩ | ⟨E_, rfl, hX⟩)
  · refine im_bkS ?_
    obtain ⟨hg5, hP⟩ := hP
    refine im_last (q := 8) D158_7 sf_7081 (by decide) (by decide) (by decide) hg5 ?_
    refine im_goto (q := 11) (t := 14) D158_8 rfl ?_
    refine im_iconst (q := 15) D158_14 ?_
    exact im_iret (q := 16) D158_15 rfl hP
  · rcases hX.1 with rfl
    · exact im_bkE rfl (hX.2 rfl)
set_option maxRecDepth 20000 in
set_option maxHeartbeats 4000000 in
theorem w_show_0 {g : im_g} {d : Nat} {e : im_E} {M : im_M} {K : im_K} (hd : 1 ≤ d) (hP : im_T g (d - 1) 161 0 [some (.ref 0), none] [] e M (im_rx (im_ri (fun x4 e_ M1 => e = e_ ∧ (im_i32 x4) ∧ K (.inl (some (vI 0))) e (im_u M1 7081 0 x4))) (fun E_ e_ M_ => (E_ = "java/lang/IllegalStateException") ∧ (E_ = "java/lang/IllegalStateException" → K (.inl (some (vI 1))) e_ M_)))) : im_T g d 160 0 [some (.ref 0), some (.ref 7081), none] [] e M K := by
  refine im_ld (q := 1) (i := 1) D160_0 rfl rfl rfl ?_
  refine im_iconst (q := 2) D160_1 ?_
  refine im_ld (q := 3) (i := 0) D160_2 rfl rfl rfl ?_
  refine im_callV (q := 6) (kd := 1) (y := 161) (n := 0) (ci := 11) (a := 0) (vs := [.ref 0]) (r := [vI 0, .ref 7081]) (L2 := [some (.ref 0), none]) D160_3 (im_cal cn_160 cl_13_29) (Or.inl rfl) rfl sf_0 rfl rfl rfl rfl hd ⟨rfl, trivial⟩ ?_
  refine hP.mono ?_
  rintro _ e6 M1 (⟨x4, rfl, rfl, hP⟩ | ⟨E_, rfl, hX⟩)
  · refine im_bkS ?_
    obtain ⟨hg5, hP⟩ := hP
    refine im_i2l (q := 7) D160_6 hg5 ?_
    refine im_last (q := 8) D160_7 sf_7081 (by decide) (by decide) (by decide) (im_32_64 hg5) ?_
    refine im_goto (q := 11) (t := 14) D160_8 rfl ?_
    refine im_iconst (q := 15) D160_14 ?_
    exact im_iret (q := 16) D160_15 rfl hP
  · rcases hX.1 with rfl
    · exact im_bkE rfl (hX.2 rfl)
set_option maxRecDepth 20000 in
set_option maxHeartbeats 4000000 in
theorem w_keep_0 {g : im_g} {d : Nat} {e : im_E} {M : im_M} {K : im_K} {p1 : Int} (hd : 1 ≤ d) (hP : im_T g (d - 1) 164 0 [some (.ref 0), some (vI p1)] [] e M (im_rx (im_ri (fun x4 e_ M1 => e = e_ ∧ (im_i32 x4) ∧ K (.inl (some (vI 0))) e (im_u M1 7081 0 x4))) (fun E_ e_ M_ => (E_ = "java/lang/IndexOutOfBoundsException" ∨ E_ = "java/lang/IllegalStateException") ∧ (E_ = "java/lang/IndexOutOfBoundsException" → K (.inl (some (vI 1))) e_ M_) ∧ (E_ = "java/lang/IllegalStateException" → K (.inl (some (vI 2))) e_ M_)))) : im_T g d 163 0 [some (.ref 0), some (vI p1), some (.ref 7081), none] [] e M K := by
  refine im_ld (q := 1) (i := 2) D163_0 rfl rfl rfl ?_
  refine im_iconst (q := 2) D163_1 ?_
  refine im_ld (q := 3) (i := 0) D163_2 rfl rfl rfl ?_
  refine im_ld (q := 4) (i := 1) D163_3 rfl rfl rfl ?_
  refine im_callV (q := 7) (kd := 1) (y := 164) (n := 1) (ci := 11) (a := 0) (vs := [.ref 0, vI p1]) (r := [vI 0, .ref 7081]) (L2 := [some (.ref 0), some (vI p1)]) D163_4 (im_cal cn_163 cl_13_32) (Or.inl rfl) rfl sf_0 rfl rfl rfl rfl hd ⟨rfl, rfl, trivial⟩ ?_
  refine hP.mono ?_
  rintro _ e6 M1 (⟨x4, rfl, rfl, hP⟩ | ⟨E_, rfl, hX⟩)
  · refine im_bkS ?_
    obtain ⟨hg5, hP⟩ := hP
    refine im_i2l (q := 8) D163_7 hg5 ?_
    refine im_last (q := 9) D163_8 sf_7081 (by decide) (by decide) (by decide) (im_32_64 hg5) ?_
    refine im_goto (q := 12) (t := 18) D163_9 rfl ?_
    refine im_iconst (q := 19) D163_18 ?_
    exact im_iret (q := 20) D163_19 rfl hP
  · rcases hX.1 with rfl | rfl
    · exact im_bkE rfl (hX.2.1 rfl)
    · exact im_bkE rfl (hX.2.2 rfl)
set_option maxRecDepth 20000 in
set_option maxHeartbeats 4000000 in
theorem w_drop_0 {g : im_g} {d : Nat} {e : im_E} {M : im_M} {K : im_K} {p1 : Int} (hd : 1 ≤ d) (hP : im_T g (d - 1) 171 0 [some (.ref 0), some (vI p1)] [] e M (im_rx (im_ri (fun x4 e_ M1 => e = e_ ∧ (im_i32 x4) ∧ K (.inl (some (vI 0))) e (im_u M1 7081 0 x4))) (fun E_ e_ M_ => (E_ = "java/lang/IndexOutOfBoundsException" ∨ E_ = "java/lang/IllegalStateException") ∧ (E_ = "java/lang/IndexOutOfBoundsException" → K (.inl (some (vI 1))) e_ M_) ∧ (E_ = "java/lang/IllegalStateException" → K (.inl (some (vI 2))) e_ M_)))) : im_T g d 170 0 [some (.ref 0), some (vI p1), some (.ref 7081), none] [] e M K := by
  refine im_ld (q := 1) (i := 2) D170_0 rfl rfl rfl ?_
  refine im_iconst (q := 2) D170_1 ?_
  refine im_ld (q := 3) (i := 0) D170_2 rfl rfl rfl ?_
  refine im_ld (q := 4) (i := 1) D170_3 rfl rfl rfl ?_
  refine im_callV (q := 7) (kd := 1) (y := 171) (n := 1) (ci := 11) (a := 0) (vs := [.ref 0, vI p1]) (r := [vI 0, .ref 7081]) (L2 := [some (.ref 0), some (vI p1)]) D170_4 (im_cal cn_170 cl_13_37) (Or.inl rfl) rfl sf_0 rfl rfl rfl rfl hd ⟨rfl, rfl, trivial⟩ ?_
  refine hP.mono ?_
  rintro _ e6 M1 (⟨x4, rfl, rfl, hP⟩ | ⟨E_, rfl, hX⟩)
  · refine im_bkS ?_
    obtain ⟨hg5, hP⟩ := hP
    refine im_i2l (q := 8) D170_7 hg5 ?_
    refine im_last (q := 9) D170_8 sf_7081 (by decide) (by decide) (by decide) (im_32_64 hg5) ?_
    refine im_goto (q := 12) (t := 18) D170_9 rfl ?_
    refine im_iconst (q := 19) D170_18 ?_
    exact im_iret (q := 20) D170_19 rfl hP
  · rcases hX.1 with rfl | rfl
    · exact im_bkE rfl (hX.2.1 rfl)
    · exact im_bkE rfl (hX.2.2 rfl)
set_option maxRecDepth 20000 in
set_option maxHeartbeats 4000000 in
theorem w_print_0 {g : im_g} {d : Nat} {e : im_E} {M : im_M} {K : im_K} {p1 : Int} (hd : 1 ≤ d) (hP : im_T g (d - 1) 173 0 [some (.ref 0), some (vI p1)] [] e M (im_rx (im_ri (fun x4 e_ M1 => e = e_ ∧ (im_i32 x4) ∧ K (.inl (some (vI 0))) e (im_u M1 7081 0 x4))) (fun E_ e_ M_ => (E_ = "java/lang/IndexOutOfBoundsException" ∨ E_ = "java/lang/IllegalStateException") ∧ (E_ = "java/lang/IndexOutOfBoundsException" → K (.inl (some (vI 1))) e_ M_) ∧ (E_ = "java/lang/IllegalStateException" → K (.inl (some (vI 2))) e_ M_)))) : im_T g d 172 0 [some (.ref 0), some (vI p1), some (.ref 7081), none] [] e M K := by
  refine im_ld (q := 1) (i := 2) D172_0 rfl rfl rfl ?_
  refine im_iconst (q := 2) D172_1 ?_
  refine im_ld (q := 3) (i := 0) D172_2 rfl rfl rfl ?_
  refine im_ld (q := 4) (i := 1) D172_3 rfl rfl rfl ?_
  refine im_callV (q := 7) (kd := 1) (y := 173) (n := 1) (ci := 11) (a := 0) (vs := [.ref 0, vI p1]) (r := [vI 0, .ref 7081]) (L2 := [some (.ref 0), some (vI p1)]) D172_4 (im_cal cn_172 cl_13_40) (Or.inl rfl) rfl sf_0 rfl rfl rfl rfl hd ⟨rfl, rfl, trivial⟩ ?_
  refine hP.mono ?_
  rintro _ e6 M1 (⟨x4, rfl, rfl, hP⟩ | ⟨E_, rfl, hX⟩)
  · refine im_bkS ?_
    obtain ⟨hg5, hP⟩ := hP
    refine im_i2l (q := 8) D172_7 hg5 ?_
    refine im_last (q := 9) D172_8 sf_7081 (by decide) (by decide) (by decide) (im_32_64 hg5) ?_
    refine im_goto (q := 12) (t := 18) D172_9 rfl ?_
    refine im_iconst (q := 19) D172_18 ?_
    exact im_iret (q := 20) D172_19 rfl hP
  · rcases hX.1 with rfl | rfl
    · exact im_bkE rfl (hX.2.1 rfl)
    · exact im_bkE rfl (hX.2.2 rfl)
set_option maxRecDepth 20000 in
set_option maxHeartbeats 4000000 in
theorem w_about_0 {g : im_g} {d : Nat} {e : im_E} {M : im_M} {K : im_K} {p1 p2 : Int} (hd : 1 ≤ d) (hP : im_T g (d - 1) 189 0 [some (.ref 0), some (vI p1), some (vI p2)] [] e M (im_rx (im_rl (fun x4 e_ M1 => e = e_ ∧ (im_i64 x4) ∧ K (.inl (some (vI 0))) e (im_u M1 7081 0 x4))) (fun E_ e_ M_ => (E_ = "java/lang/IndexOutOfBoundsException" ∨ E_ = "java/lang/IllegalArgumentException" ∨ E_ = "java/lang/IllegalStateException") ∧ (E_ = "java/lang/IndexOutOfBoundsException" → K (.inl (some (vI 1))) e_ M_) ∧ (E_ = "java/lang/IllegalArgumentException" → K (.inl (some (vI 2))) e_ M_) ∧ (E_ = "java/lang/IllegalStateException" → K (.inl (some (vI 3))) e_ M_)))) : im_T g d 188 0 [some (.ref 0), some (vI p1), some (vI p2), some (.ref 7081), none] [] e M K := by
  refine im_ld (q := 1) (i := 3) D188_0 rfl rfl rfl ?_
  refine im_iconst (q := 2) D188_1 ?_
  refine im_ld (q := 3) (i := 0) D188_2 rfl rfl rfl ?_
  refine im_ld (q := 4) (i := 1) D188_3 rfl rfl rfl ?_
  refine im_ld (q := 5) (i := 2) D188_4 rfl rfl rfl ?_
  refine im_callV (q := 8) (kd := 1) (y := 189) (n := 2) (ci := 11) (a := 0) (vs := [.ref 0, vI p1, vI p2]) (r := [vI 0, .ref 7081]) (L2 := [some (.ref 0), some (vI p1), some (vI p2)]) D188_5 (im_cal cn_188 cl_13_43) (Or.inl rfl) rfl sf_0 rfl rfl rfl rfl hd ⟨rfl, rfl, rfl, trivial⟩ ?_
  refine hP.mono ?_
  rintro _ e6 M1 (⟨x4, rfl, rfl, hP⟩ | ⟨E_, rfl, hX⟩)
  · refine im_bkS ?_
    obtain ⟨hg5, hP⟩ := hP
    refine im_last (q := 9) D188_8 sf_7081 (by decide) (by decide) (by decide) hg5 ?_
    refine im_goto (q := 12) (t := 24) D188_9 rfl ?_
    refine im_iconst (q := 25) D188_24 ?_
    exact im_iret (q := 26) D188_25 rfl hP
  · rcases hX.1 with rfl | rfl | rfl
    · exact im_bkE rfl (hX.2.1 rfl)
    · exact im_bkE rfl (hX.2.2.1 rfl)
    · exact im_bkE rfl (hX.2.2.2 rfl)
set_option maxRecDepth 20000 in
set_option maxHeartbeats 4000000 in
theorem w_parameter_0 {g : im_g} {d : Nat} {e : im_E} {M : im_M} {K : im_K} {p1 : Int} (hd : 1 ≤ d) (hP : im_T g (d - 1) 197 0 [some (.ref 0), some (vL p1), none] [] e M (im_rx (im_ri (fun x4 e_ M1 => e = e_ ∧ (im_i32 x4) ∧ K (.inl (some (vI 0))) e (im_u M1 7081 0 x4))) (fun E_ e_ M_ => (E_ = "java/lang/IllegalArgumentException" ∨ E_ = "java/lang/IllegalStateException") ∧ (E_ = "java/lang/IllegalArgumentException" → K (.inl (some (vI 1))) e_ M_) ∧ (E_ = "java/lang/IllegalStateException" → K (.inl (some (vI 2))) e_ M_)))) : im_T g d 196 0 [some (.ref 0), some (vL p1), none, some (.ref 7081), none] [] e M K := by
  refine im_ld (q := 1) (i := 3) D196_0 rfl rfl rfl ?_
  refine im_iconst (q := 2) D196_1 ?_
  refine im_ld (q := 3) (i := 0) D196_2 rfl rfl rfl ?_
  refine im_ld (q := 4) (i := 1) D196_3 rfl rfl rfl ?_
  refine im_callV (q := 7) (kd := 1) (y := 197) (n := 1) (ci := 11) (a := 0) (vs := [.ref 0, vL p1]) (r := [vI 0, .ref 7081]) (L2 := [some (.ref 0), some (vL p1), none]) D196_4 (im_cal cn_196 cl_13_47) (Or.inl rfl) rfl sf_0 rfl rfl rfl rfl hd ⟨rfl, rfl, trivial⟩ ?_
  refine hP.mono ?_
  rintro _ e6 M1 (⟨x4, rfl, rfl, hP⟩ | ⟨E_, rfl, hX⟩)
  · refine im_bkS ?_
    obtain ⟨hg5, hP⟩ := hP
    refine im_i2l (q := 8) D196_7 hg5 ?_
    refine im_last (q := 9) D196_8 sf_7081 (by decide) (by decide) (by decide) (im_32_64 hg5) ?_
    refine im_goto (q := 12) (t := 20) D196_9 rfl ?_
    refine im_iconst (q := 21) D196_20 ?_
    exact im_iret (q := 22) D196_21 rfl hP
  · rcases hX.1 with rfl | rfl
    · exact im_bkE rfl (hX.2.1 rfl)
    · exact im_bkE rfl (hX.2.2 rfl)
set_option maxRecDepth 20000 in
set_option maxHeartbeats 4000000 in
theorem w_forget_0 {g : im_g} {d : Nat} {e : im_E} {M : im_M} {K : im_K} (hd : 1 ≤ d) (hP : im_T g (d - 1) 199 0 [some (.ref 0)] [] e M (im_rx (im_ri (fun x4 e_ M1 => e = e_ ∧ (im_i32 x4) ∧ K (.inl (some (vI 0))) e (im_u M1 7081 0 x4))) (fun E_ e_ M_ => (E_ = "java/lang/IllegalStateException") ∧ (E_ = "java/lang/IllegalStateException" → K (.inl (some (vI 1))) e_ M_)))) : im_T g d 198 0 [some (.ref 0), some (.ref 7081), none] [] e M K := by
  refine im_ld (q := 1) (i := 1) D198_0 rfl rfl rfl ?_
  refine im_iconst (q := 2) D198_1 ?_
  refine im_ld (q := 3) (i := 0) D198_2 rfl rfl rfl ?_
  refine im_callV (q := 6) (kd := 1) (y := 199) (n := 0) (ci := 11) (a := 0) (vs := [.ref 0]) (r := [vI 0, .ref 7081]) (L2 := [some (.ref 0)]) D198_3 (im_cal cn_198 cl_13_51) (Or.inl rfl) rfl sf_0 rfl rfl rfl rfl hd ⟨rfl, trivial⟩ ?_
  refine hP.mono ?_
  rintro _ e6 M1 (⟨x4, rfl, rfl, hP⟩ | ⟨E_, rfl, hX⟩)
  · refine im_bkS ?_
    obtain ⟨hg5, hP⟩ := hP
    refine im_i2l (q := 7) D198_6 hg5 ?_
    refine im_last (q := 8) D198_7 sf_7081 (by decide) (by decide) (by decide) (im_32_64 hg5) ?_
    refine im_goto (q := 11) (t := 14) D198_8 rfl ?_
    refine im_iconst (q := 15) D198_14 ?_
    exact im_iret (q := 16) D198_15 rfl hP
  · rcases hX.1 with rfl
    · exact im_bkE rfl (hX.2 rfl)
set_option maxRecDepth 20000 in
set_option maxHeartbeats 4000000 in
theorem w_begin_0 {g : im_g} {d : Nat} {e : im_E} {M : im_M} {K : im_K} {p1 p2 p3 : Int} (hd : 1 ≤ d) (hP : im_T g (d - 1) 201 0 [some (.ref 0), some (vI p1), some (vI p2), some (vL p3), none] [] e M (im_rx (im_ri (fun x4 e_ M1 => e = e_ ∧ (im_i32 x4) ∧ K (.inl (some (vI 0))) e (im_u M1 7081 0 x4))) (fun E_ e_ M_ => (E_ = "java/lang/IndexOutOfBoundsException" ∨ E_ = "java/lang/IllegalArgumentException" ∨ E_ = "java/lang/IllegalStateException") ∧ (E_ = "java/lang/IndexOutOfBoundsException" → K (.inl (some (vI 1))) e_ M_) ∧ (E_ = "java/lang/IllegalArgumentException" → K (.inl (some (vI 2))) e_ M_) ∧ (E_ = "java/lang/IllegalStateException" → K (.inl (some (vI 3))) e_ M_)))) : im_T g d 200 0 [some (.ref 0), some (vI p1), some (vI p2), some (vL p3), none, some (.ref 7081), none] [] e M K := by
  refine im_ld (q := 2) (i := 5) D200_0 rfl rfl rfl ?_
  refine im_iconst (q := 3) D200_2 ?_
  refine im_ld (q := 4) (i := 0) D200_3 rfl rfl rfl ?_
  refine im_ld (q := 5) (i := 1) D200_4 rfl rfl rfl ?_
  refine im_ld (q := 6) (i := 2) D200_5 rfl rfl rfl ?_
  refine im_ld (q := 7) (i := 3) D200_6 rfl rfl rfl ?_
  refine im_callV (q := 10) (kd := 1) (y := 201) (n := 3) (ci := 11) (a := 0) (vs := [.ref 0, vI p1, vI p2, vL p3]) (r := [vI 0, .ref 7081]) (L2 := [some (.ref 0), some (vI p1), some (vI p2), some (vL p3), none]) D200_7 (im_cal cn_200 cl_13_54) (Or.inl rfl) rfl sf_0 rfl rfl rfl rfl hd ⟨rfl, rfl, rfl, rfl, trivial⟩ ?_
  refine hP.mono ?_
  rintro _ e6 M1 (⟨x4, rfl, rfl, hP⟩ | ⟨E_, rfl, hX⟩)
  · refine im_bkS ?_
    obtain ⟨hg5, hP⟩ := hP
    refine im_i2l (q := 11) D200_10 hg5 ?_
    refine im_last (q := 12) D200_11 sf_7081 (by decide) (by decide) (by decide) (im_32_64 hg5) ?_
    refine im_goto (q := 15) (t := 27) D200_12 rfl ?_
    refine im_iconst (q := 28) D200_27 ?_
    exact im_iret (q := 29) D200_28 rfl hP
  · rcases hX.1 with rfl | rfl | rfl
    · exact im_bkE rfl (hX.2.1 rfl)
    · exact im_bkE rfl (hX.2.2.1 rfl)
    · exact im_bkE rfl (hX.2.2.2 rfl)
set_option maxRecDepth 20000 in
set_option maxHeartbeats 4000000 in
theorem w_end_0 {g : im_g} {d : Nat} {e : im_E} {M : im_M} {K : im_K} {p1 : Int} (hd : 1 ≤ d) (hP : im_T g (d - 1) 203 0 [some (.ref 0), some (vI p1)] [] e M (im_rx (im_ri (fun x4 e_ M1 => e = e_ ∧ (im_i32 x4) ∧ K (.inl (some (vI 0))) e (im_u M1 7081 0 x4))) (fun E_ e_ M_ => (E_ = "java/lang/IndexOutOfBoundsException" ∨ E_ = "java/lang/IllegalStateException") ∧ (E_ = "java/lang/IndexOutOfBoundsException" → K (.inl (some (vI 1))) e_ M_) ∧ (E_ = "java/lang/IllegalStateException" → K (.inl (some (vI 2))) e_ M_)))) : im_T g d 202 0 [some (.ref 0), some (vI p1), some (.ref 7081), none] [] e M K := by
  refine im_ld (q := 1) (i := 2) D202_0 rfl rfl rfl ?_
  refine im_iconst (q := 2) D202_1 ?_
  refine im_ld (q := 3) (i := 0) D202_2 rfl rfl rfl ?_
  refine im_ld (q := 4) (i := 1) D202_3 rfl rfl rfl ?_
  refine im_callV (q := 7) (kd := 1) (y := 203) (n := 1) (ci := 11) (a := 0) (vs := [.ref 0, vI p1]) (r := [vI 0, .ref 7081]) (L2 := [some (.ref 0), some (vI p1)]) D202_4 (im_cal cn_202 cl_13_58) (Or.inl rfl) rfl sf_0 rfl rfl rfl rfl hd ⟨rfl, rfl, trivial⟩ ?_
  refine hP.mono ?_
  rintro _ e6 M1 (⟨x4, rfl, rfl, hP⟩ | ⟨E_, rfl, hX⟩)
  · refine im_bkS ?_
    obtain ⟨hg5, hP⟩ := hP
    refine im_i2l (q := 8) D202_7 hg5 ?_
    refine im_last (q := 9) D202_8 sf_7081 (by decide) (by decide) (by decide) (im_32_64 hg5) ?_
    refine im_goto (q := 12) (t := 18) D202_9 rfl ?_
    refine im_iconst (q := 19) D202_18 ?_
    exact im_iret (q := 20) D202_19 rfl hP
  · rcases hX.1 with rfl | rfl
    · exact im_bkE rfl (hX.2.1 rfl)
    · exact im_bkE rfl (hX.2.2 rfl)
set_option maxRecDepth 20000 in
set_option maxHeartbeats 4000000 in
theorem w_transact_0 {g : im_g} {d : Nat} {e : im_E} {M : im_M} {K : im_K} {p1 p2 p4 : Int} (hd : 1 ≤ d) (hP : im_T g (d - 1) 205 0 [some (.ref 0), some (vI p1), some (vL p2), none, some (vL p4), none] [] e M (im_rx (im_ri (fun x4 e_ M1 => e = e_ ∧ (im_i32 x4) ∧ K (.inl (some (vI 0))) e (im_u M1 7081 0 x4))) (fun E_ e_ M_ => (E_ = "java/lang/IndexOutOfBoundsException" ∨ E_ = "java/lang/IllegalStateException") ∧ (E_ = "java/lang/IndexOutOfBoundsException" → K (.inl (some (vI 1))) e_ M_) ∧ (E_ = "java/lang/IllegalStateException" → K (.inl (some (vI 2))) e_ M_)))) : im_T g d 204 0 [some (.ref 0), some (vI p1), some (vL p2), none, some (vL p4), none, some (.ref 7081), none] [] e M K := by
  refine im_ld (q := 2) (i := 6) D204_0 rfl rfl rfl ?_
  refine im_iconst (q := 3) D204_2 ?_
  refine im_ld (q := 4) (i := 0) D204_3 rfl rfl rfl ?_
  refine im_ld (q := 5) (i := 1) D204_4 rfl rfl rfl ?_
  refine im_ld (q := 6) (i := 2) D204_5 rfl rfl rfl ?_
  refine im_ld (q := 8) (i := 4) D204_6 rfl rfl rfl ?_
  refine im_callV (q := 11) (kd := 1) (y := 205) (n := 3) (ci := 11) (a := 0) (vs := [.ref 0, vI p1, vL p2, vL p4]) (r := [vI 0, .ref 7081]) (L2 := [some (.ref 0), some (vI p1), some (vL p2), none, some (vL p4), none]) D204_8 (im_cal cn_204 cl_13_61) (Or.inl rfl) rfl sf_0 rfl rfl rfl rfl hd ⟨rfl, rfl, rfl, rfl, trivial⟩ ?_
  refine hP.mono ?_
  rintro _ e6 M1 (⟨x4, rfl, rfl, hP⟩ | ⟨E_, rfl, hX⟩)
  · refine im_bkS ?_
    obtain ⟨hg5, hP⟩ := hP
    refine im_i2l (q := 12) D204_11 hg5 ?_
    refine im_last (q := 13) D204_12 sf_7081 (by decide) (by decide) (by decide) (im_32_64 hg5) ?_
    refine im_goto (q := 16) (t := 24) D204_13 rfl ?_
    refine im_iconst (q := 25) D204_24 ?_
    exact im_iret (q := 26) D204_25 rfl hP
  · rcases hX.1 with rfl | rfl
    · exact im_bkE rfl (hX.2.1 rfl)
    · exact im_bkE rfl (hX.2.2 rfl)
set_option maxRecDepth 20000 in
set_option maxHeartbeats 4000000 in
theorem w_rest_0 {g : im_g} {d : Nat} {e : im_E} {M : im_M} {K : im_K} {p1 : Int} (hd : 1 ≤ d) (hP : im_T g (d - 1) 207 0 [some (.ref 0), some (vI p1), none] [] e M (im_rx (im_ri (fun x4 e_ M1 => e = e_ ∧ (im_i32 x4) ∧ K (.inl (some (vI 0))) e (im_u M1 7081 0 x4))) (fun E_ e_ M_ => (E_ = "java/lang/IndexOutOfBoundsException" ∨ E_ = "java/lang/IllegalStateException") ∧ (E_ = "java/lang/IndexOutOfBoundsException" → K (.inl (some (vI 1))) e_ M_) ∧ (E_ = "java/lang/IllegalStateException" → K (.inl (some (vI 2))) e_ M_)))) : im_T g d 206 0 [some (.ref 0), some (vI p1), some (.ref 7081), none] [] e M K := by
  refine im_ld (q := 1) (i := 2) D206_0 rfl rfl rfl ?_
  refine im_iconst (q := 2) D206_1 ?_
  refine im_ld (q := 3) (i := 0) D206_2 rfl rfl rfl ?_
  refine im_ld (q := 4) (i := 1) D206_3 rfl rfl rfl ?_
  refine im_callV (q := 7) (kd := 1) (y := 207) (n := 1) (ci := 11) (a := 0) (vs := [.ref 0, vI p1]) (r := [vI 0, .ref 7081]) (L2 := [some (.ref 0), some (vI p1), none]) D206_4 (im_cal cn_206 cl_13_65) (Or.inl rfl) rfl sf_0 rfl rfl rfl rfl hd ⟨rfl, rfl, trivial⟩ ?_
  refine hP.mono ?_
  rintro _ e6 M1 (⟨x4, rfl, rfl, hP⟩ | ⟨E_, rfl, hX⟩)
  · refine im_bkS ?_
    obtain ⟨hg5, hP⟩ := hP
    refine im_i2l (q := 8) D206_7 hg5 ?_
    refine im_last (q := 9) D206_8 sf_7081 (by decide) (by decide) (by decide) (im_32_64 hg5) ?_
    refine im_goto (q := 12) (t := 18) D206_9 rfl ?_
    refine im_iconst (q := 19) D206_18 ?_
    exact im_iret (q := 20) D206_19 rfl hP
  · rcases hX.1 with rfl | rfl
    · exact im_bkE rfl (hX.2.1 rfl)
    · exact im_bkE rfl (hX.2.2 rfl)
set_option maxRecDepth 20000 in
set_option maxHeartbeats 4000000 in
theorem w_state_0 {g : im_g} {d : Nat} {e : im_E} {M : im_M} {K : im_K} {p1 p2 : Int} (hd : 1 ≤ d) (hP : im_T g (d - 1) 210 0 [some (.ref 0), some (vI p1), some (vI p2), none] [] e M (im_rx (im_rl (fun x4 e_ M1 => e = e_ ∧ (im_i64 x4) ∧ K (.inl (some (vI 0))) e (im_u M1 7081 0 x4))) (fun E_ e_ M_ => (E_ = "java/lang/IndexOutOfBoundsException" ∨ E_ = "java/lang/IllegalArgumentException" ∨ E_ = "java/lang/IllegalStateException") ∧ (E_ = "java/lang/IndexOutOfBoundsException" → K (.inl (some (vI 1))) e_ M_) ∧ (E_ = "java/lang/IllegalArgumentException" → K (.inl (some (vI 2))) e_ M_) ∧ (E_ = "java/lang/IllegalStateException" → K (.inl (some (vI 3))) e_ M_)))) : im_T g d 209 0 [some (.ref 0), some (vI p1), some (vI p2), some (.ref 7081), none] [] e M K := by
  refine im_ld (q := 1) (i := 3) D209_0 rfl rfl rfl ?_
  refine im_iconst (q := 2) D209_1 ?_
  refine im_ld (q := 3) (i := 0) D209_2 rfl rfl rfl ?_
  refine im_ld (q := 4) (i := 1) D209_3 rfl rfl rfl ?_
  refine im_ld (q := 5) (i := 2) D209_4 rfl rfl rfl ?_
  refine im_callV (q := 8) (kd := 1) (y := 210) (n := 2) (ci := 11) (a := 0) (vs := [.ref 0, vI p1, vI p2]) (r := [vI 0, .ref 7081]) (L2 := [some (.ref 0), some (vI p1), some (vI p2), none]) D209_5 (im_cal cn_209 cl_13_68) (Or.inl rfl) rfl sf_0 rfl rfl rfl rfl hd ⟨rfl, rfl, rfl, trivial⟩ ?_
  refine hP.mono ?_
  rintro _ e6 M1 (⟨x4, rfl, rfl, hP⟩ | ⟨E_, rfl, hX⟩)
  · refine im_bkS ?_
    obtain ⟨hg5, hP⟩ := hP
    refine im_last (q := 9) D209_8 sf_7081 (by decide) (by decide) (by decide) hg5 ?_
    refine im_goto (q := 12) (t := 24) D209_9 rfl ?_
    refine im_iconst (q := 25) D209_24 ?_
    exact im_iret (q := 26) D209_25 rfl hP
  · rcases hX.1 with rfl | rfl | rfl
    · exact im_bkE rfl (hX.2.1 rfl)
    · exact im_bkE rfl (hX.2.2.1 rfl)
    · exact im_bkE rfl (hX.2.2.2 rfl)
set_option maxRecDepth 20000 in
set_option maxHeartbeats 4000000 in
theorem w_entry_0 {g : im_g} {d : Nat} {e : im_E} {M : im_M} {K : im_K} {p1 p2 p3 : Int} (hd : 1 ≤ d) (hP : im_T g (d - 1) 213 0 [some (.ref 0), some (vI p1), some (vI p2), some (vI p3), none] [] e M (im_rx (im_ri (fun x4 e_ M1 => e = e_ ∧ (im_i32 x4) ∧ K (.inl (some (vI 0))) e (im_u M1 7081 0 x4))) (fun E_ e_ M_ => (E_ = "java/lang/IndexOutOfBoundsException" ∨ E_ = "java/lang/IllegalArgumentException" ∨ E_ = "java/lang/IllegalStateException") ∧ (E_ = "java/lang/IndexOutOfBoundsException" → K (.inl (some (vI 1))) e_ M_) ∧ (E_ = "java/lang/IllegalArgumentException" → K (.inl (some (vI 2))) e_ M_) ∧ (E_ = "java/lang/IllegalStateException" → K (.inl (some (vI 3))) e_ M_)))) : im_T g d 212 0 [some (.ref 0), some (vI p1), some (vI p2), some (vI p3), some (.ref 7081), none] [] e M K := by
  refine im_ld (q := 2) (i := 4) D212_0 rfl rfl rfl ?_
  refine im_iconst (q := 3) D212_2 ?_
  refine im_ld (q := 4) (i := 0) D212_3 rfl rfl rfl ?_
  refine im_ld (q := 5) (i := 1) D212_4 rfl rfl rfl ?_
  refine im_ld (q := 6) (i := 2) D212_5 rfl rfl rfl ?_
  refine im_ld (q := 7) (i := 3) D212_6 rfl rfl rfl ?_
  refine im_callV (q := 10) (kd := 1) (y := 213) (n := 3) (ci := 11) (a := 0) (vs := [.ref 0, vI p1, vI p2, vI p3]) (r := [vI 0, .ref 7081]) (L2 := [some (.ref 0), some (vI p1), some (vI p2), some (vI p3), none]) D212_7 (im_cal cn_212 cl_13_71) (Or.inl rfl) rfl sf_0 rfl rfl rfl rfl hd ⟨rfl, rfl, rfl, rfl, trivial⟩ ?_
  refine hP.mono ?_
  rintro _ e6 M1 (⟨x4, rfl, rfl, hP⟩ | ⟨E_, rfl, hX⟩)
  · refine im_bkS ?_
    obtain ⟨hg5, hP⟩ := hP
    refine im_i2l (q := 11) D212_10 hg5 ?_
    refine im_last (q := 12) D212_11 sf_7081 (by decide) (by decide) (by decide) (im_32_64 hg5) ?_
    refine im_goto (q := 15) (t := 27) D212_12 rfl ?_
    refine im_iconst (q := 28) D212_27 ?_
    exact im_iret (q := 29) D212_28 rfl hP
  · rcases hX.1 with rfl | rfl | rfl
    · exact im_bkE rfl (hX.2.1 rfl)
    · exact im_bkE rfl (hX.2.2.1 rfl)
    · exact im_bkE rfl (hX.2.2.2 rfl)
set_option maxRecDepth 20000 in
set_option maxHeartbeats 4000000 in
theorem w_name_0 {g : im_g} {d : Nat} {e : im_E} {M : im_M} {K : im_K} {p1 p2 p3 p4 : Int} (hd : 1 ≤ d) (hP : im_T g (d - 1) 217 0 [some (.ref 0), some (vI p1), some (vI p2), some (vI p3), some (vI p4), none] [] e M (im_rx (im_rl (fun x4 e_ M1 => e = e_ ∧ (im_i64 x4) ∧ K (.inl (some (vI 0))) e (im_u M1 7081 0 x4))) (fun E_ e_ M_ => (E_ = "java/lang/IndexOutOfBoundsException" ∨ E_ = "java/lang/IllegalArgumentException" ∨ E_ = "java/lang/IllegalStateException") ∧ (E_ = "java/lang/IndexOutOfBoundsException" → K (.inl (some (vI 1))) e_ M_) ∧ (E_ = "java/lang/IllegalArgumentException" → K (.inl (some (vI 2))) e_ M_) ∧ (E_ = "java/lang/IllegalStateException" → K (.inl (some (vI 3))) e_ M_)))) : im_T g d 216 0 [some (.ref 0), some (vI p1), some (vI p2), some (vI p3), some (vI p4), some (.ref 7081), none] [] e M K := by
  refine im_ld (q := 2) (i := 5) D216_0 rfl rfl rfl ?_
  refine im_iconst (q := 3) D216_2 ?_
  refine im_ld (q := 4) (i := 0) D216_3 rfl rfl rfl ?_
  refine im_ld (q := 5) (i := 1) D216_4 rfl rfl rfl ?_
  refine im_ld (q := 6) (i := 2) D216_5 rfl rfl rfl ?_
  refine im_ld (q := 7) (i := 3) D216_6 rfl rfl rfl ?_
  refine im_ld (q := 9) (i := 4) D216_7 rfl rfl rfl ?_
  refine im_callV (q := 12) (kd := 1) (y := 217) (n := 4) (ci := 11) (a := 0) (vs := [.ref 0, vI p1, vI p2, vI p3, vI p4]) (r := [vI 0, .ref 7081]) (L2 := [some (.ref 0), some (vI p1), some (vI p2), some (vI p3), some (vI p4), none]) D216_9 (im_cal cn_216 cl_13_75) (Or.inl rfl) rfl sf_0 rfl rfl rfl rfl hd ⟨rfl, rfl, rfl, rfl, rfl, trivial⟩ ?_
  refine hP.mono ?_
  rintro _ e6 M1 (⟨x4, rfl, rfl, hP⟩ | ⟨E_, rfl, hX⟩)
  · refine im_bkS ?_
    obtain ⟨hg5, hP⟩ := hP
    refine im_last (q := 13) D216_12 sf_7081 (by decide) (by decide) (by decide) hg5 ?_
    refine im_goto (q := 16) (t := 28) D216_13 rfl ?_
    refine im_iconst (q := 29) D216_28 ?_
    exact im_iret (q := 30) D216_29 rfl hP
  · rcases hX.1 with rfl | rfl | rfl
    · exact im_bkE rfl (hX.2.1 rfl)
    · exact im_bkE rfl (hX.2.2.1 rfl)
    · exact im_bkE rfl (hX.2.2.2 rfl)
set_option maxRecDepth 20000 in
set_option maxHeartbeats 4000000 in
theorem w_count_0 {g : im_g} {d : Nat} {e : im_E} {M : im_M} {K : im_K} {p1 : Int} (hd : 1 ≤ d) (hP : im_T g (d - 1) 219 0 [some (.ref 0), some (vI p1)] [] e M (im_rx (im_ri (fun x4 e_ M1 => e = e_ ∧ (im_i32 x4) ∧ K (.inl (some (vI 0))) e (im_u M1 7081 0 x4))) (fun E_ e_ M_ => (E_ = "java/lang/IllegalArgumentException" ∨ E_ = "java/lang/IllegalStateException") ∧ (E_ = "java/lang/IllegalArgumentException" → K (.inl (some (vI 1))) e_ M_) ∧ (E_ = "java/lang/IllegalStateException" → K (.inl (some (vI 2))) e_ M_)))) : im_T g d 218 0 [some (.ref 0), some (vI p1), some (.ref 7081), none] [] e M K := by
  refine im_ld (q := 1) (i := 2) D218_0 rfl rfl rfl ?_
  refine im_iconst (q := 2) D218_1 ?_
  refine im_ld (q := 3) (i := 0) D218_2 rfl rfl rfl ?_
  refine im_ld (q := 4) (i := 1) D218_3 rfl rfl rfl ?_
  refine im_callV (q := 7) (kd := 1) (y := 219) (n := 1) (ci := 11) (a := 0) (vs := [.ref 0, vI p1]) (r := [vI 0, .ref 7081]) (L2 := [some (.ref 0), some (vI p1)]) D218_4 (im_cal cn_218 cl_13_79) (Or.inl rfl) rfl sf_0 rfl rfl rfl rfl hd ⟨rfl, rfl, trivial⟩ ?_
  refine hP.mono ?_
  rintro _ e6 M1 (⟨x4, rfl, rfl, hP⟩ | ⟨E_, rfl, hX⟩)
  · refine im_bkS ?_
    obtain ⟨hg5, hP⟩ := hP
    refine im_i2l (q := 8) D218_7 hg5 ?_
    refine im_last (q := 9) D218_8 sf_7081 (by decide) (by decide) (by decide) (im_32_64 hg5) ?_
    refine im_goto (q := 12) (t := 18) D218_9 rfl ?_
    refine im_iconst (q := 19) D218_18 ?_
    exact im_iret (q := 20) D218_19 rfl hP
  · rcases hX.1 with rfl | rfl
    · exact im_bkE rfl (hX.2.1 rfl)
    · exact im_bkE rfl (hX.2.2 rfl)
set_option maxRecDepth 20000 in
set_option maxHeartbeats 4000000 in
theorem w_payment_0 {g : im_g} {d : Nat} {e : im_E} {M : im_M} {K : im_K} {p1 p2 : Int} (hd : 1 ≤ d) (hP : im_T g (d - 1) 221 0 [some (.ref 0), some (vI p1), some (vI p2)] [] e M (im_rx (im_rl (fun x4 e_ M1 => e = e_ ∧ (im_i64 x4) ∧ K (.inl (some (vI 0))) e (im_u M1 7081 0 x4))) (fun E_ e_ M_ => (E_ = "java/lang/IndexOutOfBoundsException" ∨ E_ = "java/lang/IllegalArgumentException" ∨ E_ = "java/lang/IllegalStateException") ∧ (E_ = "java/lang/IndexOutOfBoundsException" → K (.inl (some (vI 1))) e_ M_) ∧ (E_ = "java/lang/IllegalArgumentException" → K (.inl (some (vI 2))) e_ M_) ∧ (E_ = "java/lang/IllegalStateException" → K (.inl (some (vI 3))) e_ M_)))) : im_T g d 220 0 [some (.ref 0), some (vI p1), some (vI p2), some (.ref 7081), none] [] e M K := by
  refine im_ld (q := 1) (i := 3) D220_0 rfl rfl rfl ?_
  refine im_iconst (q := 2) D220_1 ?_
  refine im_ld (q := 3) (i := 0) D220_2 rfl rfl rfl ?_
  refine im_ld (q := 4) (i := 1) D220_3 rfl rfl rfl ?_
  refine im_ld (q := 5) (i := 2) D220_4 rfl rfl rfl ?_
  refine im_callV (q := 8) (kd := 1) (y := 221) (n := 2) (ci := 11) (a := 0) (vs := [.ref 0, vI p1, vI p2]) (r := [vI 0, .ref 7081]) (L2 := [some (.ref 0), some (vI p1), some (vI p2)]) D220_5 (im_cal cn_220 cl_13_82) (Or.inl rfl) rfl sf_0 rfl rfl rfl rfl hd ⟨rfl, rfl, rfl, trivial⟩ ?_
  refine hP.mono ?_
  rintro _ e6 M1 (⟨x4, rfl, rfl, hP⟩ | ⟨E_, rfl, hX⟩)
  · refine im_bkS ?_
    obtain ⟨hg5, hP⟩ := hP
    refine im_last (q := 9) D220_8 sf_7081 (by decide) (by decide) (by decide) hg5 ?_
    refine im_goto (q := 12) (t := 24) D220_9 rfl ?_
    refine im_iconst (q := 25) D220_24 ?_
    exact im_iret (q := 26) D220_25 rfl hP
  · rcases hX.1 with rfl | rfl | rfl
    · exact im_bkE rfl (hX.2.1 rfl)
    · exact im_bkE rfl (hX.2.2.1 rfl)
    · exact im_bkE rfl (hX.2.2.2 rfl)
set_option maxRecDepth 20000 in
set_option maxHeartbeats 4000000 in
theorem w_amount_0 {g : im_g} {d : Nat} {e : im_E} {M : im_M} {K : im_K} {p1 p2 : Int} (hd : 1 ≤ d) (hP : im_T g (d - 1) 224 0 [some (.ref 0), some (vI p1), some (vI p2), none] [] e M (im_rx (im_ri (fun x4 e_ M1 => e = e_ ∧ (im_i32 x4) ∧ K (.inl (some (vI 0))) e (im_u M1 7081 0 x4))) (fun E_ e_ M_ => (E_ = "java/lang/IndexOutOfBoundsException" ∨ E_ = "java/lang/IllegalStateException") ∧ (E_ = "java/lang/IndexOutOfBoundsException" → K (.inl (some (vI 1))) e_ M_) ∧ (E_ = "java/lang/IllegalStateException" → K (.inl (some (vI 2))) e_ M_)))) : im_T g d 223 0 [some (.ref 0), some (vI p1), some (vI p2), some (.ref 7081), none] [] e M K := by
  refine im_ld (q := 1) (i := 3) D223_0 rfl rfl rfl ?_
  refine im_iconst (q := 2) D223_1 ?_
  refine im_ld (q := 3) (i := 0) D223_2 rfl rfl rfl ?_
  refine im_ld (q := 4) (i := 1) D223_3 rfl rfl rfl ?_
  refine im_ld (q := 5) (i := 2) D223_4 rfl rfl rfl ?_
  refine im_callV (q := 8) (kd := 1) (y := 224) (n := 2) (ci := 11) (a := 0) (vs := [.ref 0, vI p1, vI p2]) (r := [vI 0, .ref 7081]) (L2 := [some (.ref 0), some (vI p1), some (vI p2), none]) D223_5 (im_cal cn_223 cl_13_85) (Or.inl rfl) rfl sf_0 rfl rfl rfl rfl hd ⟨rfl, rfl, rfl, trivial⟩ ?_
  refine hP.mono ?_
  rintro _ e6 M1 (⟨x4, rfl, rfl, hP⟩ | ⟨E_, rfl, hX⟩)
  · refine im_bkS ?_
    obtain ⟨hg5, hP⟩ := hP
    refine im_i2l (q := 9) D223_8 hg5 ?_
    refine im_last (q := 10) D223_9 sf_7081 (by decide) (by decide) (by decide) (im_32_64 hg5) ?_
    refine im_goto (q := 13) (t := 21) D223_10 rfl ?_
    refine im_iconst (q := 22) D223_21 ?_
    exact im_iret (q := 23) D223_22 rfl hP
  · rcases hX.1 with rfl | rfl
    · exact im_bkE rfl (hX.2.1 rfl)
    · exact im_bkE rfl (hX.2.2 rfl)
set_option maxRecDepth 20000 in
set_option maxHeartbeats 4000000 in
theorem w_warning_0 {g : im_g} {d : Nat} {e : im_E} {M : im_M} {K : im_K} {p1 p2 : Int} (hd : 1 ≤ d) (hP : im_T g (d - 1) 226 0 [some (.ref 0), some (vI p1), some (vI p2)] [] e M (im_rx (im_rl (fun x4 e_ M1 => e = e_ ∧ (im_i64 x4) ∧ K (.inl (some (vI 0))) e (im_u M1 7081 0 x4))) (fun E_ e_ M_ => (E_ = "java/lang/IndexOutOfBoundsException" ∨ E_ = "java/lang/IllegalArgumentException" ∨ E_ = "java/lang/IllegalStateException") ∧ (E_ = "java/lang/IndexOutOfBoundsException" → K (.inl (some (vI 1))) e_ M_) ∧ (E_ = "java/lang/IllegalArgumentException" → K (.inl (some (vI 2))) e_ M_) ∧ (E_ = "java/lang/IllegalStateException" → K (.inl (some (vI 3))) e_ M_)))) : im_T g d 225 0 [some (.ref 0), some (vI p1), some (vI p2), some (.ref 7081), none] [] e M K := by
  refine im_ld (q := 1) (i := 3) D225_0 rfl rfl rfl ?_
  refine im_iconst (q := 2) D225_1 ?_
  refine im_ld (q := 3) (i := 0) D225_2 rfl rfl rfl ?_
  refine im_ld (q := 4) (i := 1) D225_3 rfl rfl rfl ?_
  refine im_ld (q := 5) (i := 2) D225_4 rfl rfl rfl ?_
  refine im_callV (q := 8) (kd := 1) (y := 226) (n := 2) (ci := 11) (a := 0) (vs := [.ref 0, vI p1, vI p2]) (r := [vI 0, .ref 7081]) (L2 := [some (.ref 0), some (vI p1), some (vI p2)]) D225_5 (im_cal cn_225 cl_13_89) (Or.inl rfl) rfl sf_0 rfl rfl rfl rfl hd ⟨rfl, rfl, rfl, trivial⟩ ?_
  refine hP.mono ?_
  rintro _ e6 M1 (⟨x4, rfl, rfl, hP⟩ | ⟨E_, rfl, hX⟩)
  · refine im_bkS ?_
    obtain ⟨hg5, hP⟩ := hP
    refine im_last (q := 9) D225_8 sf_7081 (by decide) (by decide) (by decide) hg5 ?_
    refine im_goto (q := 12) (t := 24) D225_9 rfl ?_
    refine im_iconst (q := 25) D225_24 ?_
    exact im_iret (q := 26) D225_25 rfl hP
  · rcases hX.1 with rfl | rfl | rfl
    · exact im_bkE rfl (hX.2.1 rfl)
    · exact im_bkE rfl (hX.2.2.1 rfl)
    · exact im_bkE rfl (hX.2.2.2 rfl)
set_option maxRecDepth 20000 in
set_option maxHeartbeats 4000000 in
theorem w_mint_0 {g : im_g} {d : Nat} {e : im_E} {M : im_M} {K : im_K} {p1 p3 : Int} (hd : 1 ≤ d) (hP : im_T g (d - 1) 228 0 [some (.ref 0), some (vL p1), none, some (vL p3), none] [] e M (im_rx (im_ri (fun x4 e_ M1 => e = e_ ∧ (im_i32 x4) ∧ K (.inl (some (vI 0))) e (im_u M1 7081 0 x4))) (fun E_ e_ M_ => (E_ = "java/lang/IllegalArgumentException" ∨ E_ = "java/lang/IllegalStateException") ∧ (E_ = "java/lang/IllegalArgumentException" → K (.inl (some (vI 1))) e_ M_) ∧ (E_ = "java/lang/IllegalStateException" → K (.inl (some (vI 2))) e_ M_)))) : im_T g d 227 0 [some (.ref 0), some (vL p1), none, some (vL p3), none, some (.ref 7081), none] [] e M K := by
  refine im_ld (q := 2) (i := 5) D227_0 rfl rfl rfl ?_
  refine im_iconst (q := 3) D227_2 ?_
  refine im_ld (q := 4) (i := 0) D227_3 rfl rfl rfl ?_
  refine im_ld (q := 5) (i := 1) D227_4 rfl rfl rfl ?_
  refine im_ld (q := 6) (i := 3) D227_5 rfl rfl rfl ?_
  refine im_callV (q := 9) (kd := 1) (y := 228) (n := 2) (ci := 11) (a := 0) (vs := [.ref 0, vL p1, vL p3]) (r := [vI 0, .ref 7081]) (L2 := [some (.ref 0), some (vL p1), none, some (vL p3), none]) D227_6 (im_cal cn_227 cl_13_92) (Or.inl rfl) rfl sf_0 rfl rfl rfl rfl hd ⟨rfl, rfl, rfl, trivial⟩ ?_
  refine hP.mono ?_
  rintro _ e6 M1 (⟨x4, rfl, rfl, hP⟩ | ⟨E_, rfl, hX⟩)
  · refine im_bkS ?_
    obtain ⟨hg5, hP⟩ := hP
    refine im_i2l (q := 10) D227_9 hg5 ?_
    refine im_last (q := 11) D227_10 sf_7081 (by decide) (by decide) (by decide) (im_32_64 hg5) ?_
    refine im_goto (q := 14) (t := 22) D227_11 rfl ?_
    refine im_iconst (q := 23) D227_22 ?_
    exact im_iret (q := 24) D227_23 rfl hP
  · rcases hX.1 with rfl | rfl
    · exact im_bkE rfl (hX.2.1 rfl)
    · exact im_bkE rfl (hX.2.2 rfl)
set_option maxRecDepth 20000 in
set_option maxHeartbeats 4000000 in
theorem w_wallet_0 {g : im_g} {d : Nat} {e : im_E} {M : im_M} {K : im_K} {p1 p3 : Int} (hd : 1 ≤ d) (hP : im_T g (d - 1) 230 0 [some (.ref 0), some (vL p1), none, some (vL p3), none] [] e M (im_rx (im_ri (fun x4 e_ M1 => e = e_ ∧ (im_i32 x4) ∧ K (.inl (some (vI 0))) e (im_u M1 7081 0 x4))) (fun E_ e_ M_ => (E_ = "java/lang/IllegalArgumentException" ∨ E_ = "java/lang/IllegalStateException") ∧ (E_ = "java/lang/IllegalArgumentException" → K (.inl (some (vI 1))) e_ M_) ∧ (E_ = "java/lang/IllegalStateException" → K (.inl (some (vI 2))) e_ M_)))) : im_T g d 229 0 [some (.ref 0), some (vL p1), none, some (vL p3), none, some (.ref 7081), none] [] e M K := by
  refine im_ld (q := 2) (i := 5) D229_0 rfl rfl rfl ?_
  refine im_iconst (q := 3) D229_2 ?_
  refine im_ld (q := 4) (i := 0) D229_3 rfl rfl rfl ?_
  refine im_ld (q := 5) (i := 1) D229_4 rfl rfl rfl ?_
  refine im_ld (q := 6) (i := 3) D229_5 rfl rfl rfl ?_
  refine im_callV (q := 9) (kd := 1) (y := 230) (n := 2) (ci := 11) (a := 0) (vs := [.ref 0, vL p1, vL p3]) (r := [vI 0, .ref 7081]) (L2 := [some (.ref 0), some (vL p1), none, some (vL p3), none]) D229_6 (im_cal cn_229 cl_13_96) (Or.inl rfl) rfl sf_0 rfl rfl rfl rfl hd ⟨rfl, rfl, rfl, trivial⟩ ?_
  refine hP.mono ?_
  rintro _ e6 M1 (⟨x4, rfl, rfl, hP⟩ | ⟨E_, rfl, hX⟩)
  · refine im_bkS ?_
    obtain ⟨hg5, hP⟩ := hP
    refine im_i2l (q := 10) D229_9 hg5 ?_
    refine im_last (q := 11) D229_10 sf_7081 (by decide) (by decide) (by decide) (im_32_64 hg5) ?_
    refine im_goto (q := 14) (t := 22) D229_11 rfl ?_
    refine im_iconst (q := 23) D229_22 ?_
    exact im_iret (q := 24) D229_23 rfl hP
  · rcases hX.1 with rfl | rfl
    · exact im_bkE rfl (hX.2.1 rfl)
    · exact im_bkE rfl (hX.2.2 rfl)
set_option maxRecDepth 20000 in
set_option maxHeartbeats 4000000 in
theorem w_total_0 {g : im_g} {d : Nat} {e : im_E} {M : im_M} {K : im_K} {p1 p3 : Int} (hd : 1 ≤ d) (hP : im_T g (d - 1) 232 0 [some (.ref 0), some (vL p1), none, some (vI p3), none] [] e M (im_rx (im_ri (fun x4 e_ M1 => e = e_ ∧ (im_i32 x4) ∧ K (.inl (some (vI 0))) e (im_u M1 7081 0 x4))) (fun E_ e_ M_ => (E_ = "java/lang/IllegalArgumentException" ∨ E_ = "java/lang/IllegalStateException") ∧ (E_ = "java/lang/IllegalArgumentException" → K (.inl (some (vI 1))) e_ M_) ∧ (E_ = "java/lang/IllegalStateException" → K (.inl (some (vI 2))) e_ M_)))) : im_T g d 231 0 [some (.ref 0), some (vL p1), none, some (vI p3), some (.ref 7081), none] [] e M K := by
  refine im_ld (q := 2) (i := 4) D231_0 rfl rfl rfl ?_
  refine im_iconst (q := 3) D231_2 ?_
  refine im_ld (q := 4) (i := 0) D231_3 rfl rfl rfl ?_
  refine im_ld (q := 5) (i := 1) D231_4 rfl rfl rfl ?_
  refine im_ld (q := 6) (i := 3) D231_5 rfl rfl rfl ?_
  refine im_callV (q := 9) (kd := 1) (y := 232) (n := 2) (ci := 11) (a := 0) (vs := [.ref 0, vL p1, vI p3]) (r := [vI 0, .ref 7081]) (L2 := [some (.ref 0), some (vL p1), none, some (vI p3), none]) D231_6 (im_cal cn_231 cl_13_99) (Or.inl rfl) rfl sf_0 rfl rfl rfl rfl hd ⟨rfl, rfl, rfl, trivial⟩ ?_
  refine hP.mono ?_
  rintro _ e6 M1 (⟨x4, rfl, rfl, hP⟩ | ⟨E_, rfl, hX⟩)
  · refine im_bkS ?_
    obtain ⟨hg5, hP⟩ := hP
    refine im_i2l (q := 10) D231_9 hg5 ?_
    refine im_last (q := 11) D231_10 sf_7081 (by decide) (by decide) (by decide) (im_32_64 hg5) ?_
    refine im_goto (q := 14) (t := 22) D231_11 rfl ?_
    refine im_iconst (q := 23) D231_22 ?_
    exact im_iret (q := 24) D231_23 rfl hP
  · rcases hX.1 with rfl | rfl
    · exact im_bkE rfl (hX.2.1 rfl)
    · exact im_bkE rfl (hX.2.2 rfl)
set_option maxRecDepth 20000 in
set_option maxHeartbeats 4000000 in
theorem w_wallets_0 {g : im_g} {d : Nat} {e : im_E} {M : im_M} {K : im_K} (hd : 1 ≤ d) (hP : im_T g (d - 1) 235 0 [some (.ref 0)] [] e M (im_rx (im_ri (fun x4 e_ M1 => e = e_ ∧ (im_i32 x4) ∧ K (.inl (some (vI 0))) e (im_u M1 7081 0 x4))) (fun E_ e_ M_ => (E_ = "java/lang/IllegalStateException") ∧ (E_ = "java/lang/IllegalStateException" → K (.inl (some (vI 1))) e_ M_)))) : im_T g d 234 0 [some (.ref 0), some (.ref 7081), none] [] e M K := by
  refine im_ld (q := 1) (i := 1) D234_0 rfl rfl rfl ?_
  refine im_iconst (q := 2) D234_1 ?_
  refine im_ld (q := 3) (i := 0) D234_2 rfl rfl rfl ?_
  refine im_callV (q := 6) (kd := 1) (y := 235) (n := 0) (ci := 11) (a := 0) (vs := [.ref 0]) (r := [vI 0, .ref 7081]) (L2 := [some (.ref 0)]) D234_3 (im_cal cn_234 cl_13_103) (Or.inl rfl) rfl sf_0 rfl rfl rfl rfl hd ⟨rfl, trivial⟩ ?_
  refine hP.mono ?_
  rintro _ e6 M1 (⟨x4, rfl, rfl, hP⟩ | ⟨E_, rfl, hX⟩)
  · refine im_bkS ?_
    obtain ⟨hg5, hP⟩ := hP
    refine im_i2l (q := 7) D234_6 hg5 ?_
    refine im_last (q := 8) D234_7 sf_7081 (by decide) (by decide) (by decide) (im_32_64 hg5) ?_
    refine im_goto (q := 11) (t := 14) D234_8 rfl ?_
    refine im_iconst (q := 15) D234_14 ?_
    exact im_iret (q := 16) D234_15 rfl hP
  · rcases hX.1 with rfl
    · exact im_bkE rfl (hX.2 rfl)
set_option maxRecDepth 20000 in
set_option maxHeartbeats 4000000 in
theorem w_look_0 {g : im_g} {d : Nat} {e : im_E} {M : im_M} {K : im_K} {p1 p2 p3 p4 : Int} (hd : 1 ≤ d) (hP : im_T g (d - 1) 237 0 [some (.ref 0), some (vI p1), some (vI p2), some (vI p3), some (vI p4), none] [] e M (im_rx (im_ri (fun x4 e2 M1 => ∃ ex3 : im_E, e2 = e ++ ex3 ∧ (im_i32 x4) ∧ K (.inl (some (vI 0))) (e ++ ex3) (im_u M1 7081 0 x4))) (fun E_ e_ M_ => (E_ = "java/lang/IndexOutOfBoundsException" ∨ E_ = "java/lang/IllegalArgumentException" ∨ E_ = "java/lang/IllegalStateException") ∧ (E_ = "java/lang/IndexOutOfBoundsException" → K (.inl (some (vI 1))) e_ M_) ∧ (E_ = "java/lang/IllegalArgumentException" → K (.inl (some (vI 2))) e_ M_) ∧ (E_ = "java/lang/IllegalStateException" → K (.inl (some (vI 3))) e_ M_)))) : im_T g d 236 0 [some (.ref 0), some (vI p1), some (vI p2), some (vI p3), some (vI p4), some (.ref 7081), none] [] e M K := by
  refine im_ld (q := 2) (i := 5) D236_0 rfl rfl rfl ?_
  refine im_iconst (q := 3) D236_2 ?_
  refine im_ld (q := 4) (i := 0) D236_3 rfl rfl rfl ?_
  refine im_ld (q := 5) (i := 1) D236_4 rfl rfl rfl ?_
  refine im_ld (q := 6) (i := 2) D236_5 rfl rfl rfl ?_
  refine im_ld (q := 7) (i := 3) D236_6 rfl rfl rfl ?_
  refine im_ld (q := 9) (i := 4) D236_7 rfl rfl rfl ?_
  refine im_callV (q := 12) (kd := 1) (y := 237) (n := 4) (ci := 11) (a := 0) (vs := [.ref 0, vI p1, vI p2, vI p3, vI p4]) (r := [vI 0, .ref 7081]) (L2 := [some (.ref 0), some (vI p1), some (vI p2), some (vI p3), some (vI p4), none]) D236_9 (im_cal cn_236 cl_13_106) (Or.inl rfl) rfl sf_0 rfl rfl rfl rfl hd ⟨rfl, rfl, rfl, rfl, rfl, trivial⟩ ?_
  refine hP.mono ?_
  rintro _ e2 M1 (⟨x4, rfl, ex3, rfl, hP⟩ | ⟨E_, rfl, hX⟩)
  · refine im_bkS ?_
    obtain ⟨hg5, hP⟩ := hP
    refine im_i2l (q := 13) D236_12 hg5 ?_
    refine im_last (q := 14) D236_13 sf_7081 (by decide) (by decide) (by decide) (im_32_64 hg5) ?_
    refine im_goto (q := 17) (t := 29) D236_14 rfl ?_
    refine im_iconst (q := 30) D236_29 ?_
    exact im_iret (q := 31) D236_30 rfl hP
  · rcases hX.1 with rfl | rfl | rfl
    · exact im_bkE rfl (hX.2.1 rfl)
    · exact im_bkE rfl (hX.2.2.1 rfl)
    · exact im_bkE rfl (hX.2.2.2 rfl)
set_option maxRecDepth 20000 in
set_option maxHeartbeats 4000000 in
theorem w_tries_0 {g : im_g} {d : Nat} {e : im_E} {M : im_M} {K : im_K} (hd : 1 ≤ d) (hP : im_T g (d - 1) 248 0 [some (.ref 0)] [] e M (im_rx (im_ri (fun x4 e_ M1 => e = e_ ∧ (im_i32 x4) ∧ K (.inl (some (vI 0))) e (im_u M1 7081 0 x4))) (fun E_ e_ M_ => (E_ = "java/lang/IllegalStateException") ∧ (E_ = "java/lang/IllegalStateException" → K (.inl (some (vI 1))) e_ M_)))) : im_T g d 247 0 [some (.ref 0), some (.ref 7081), none] [] e M K := by
  refine im_ld (q := 1) (i := 1) D247_0 rfl rfl rfl ?_
  refine im_iconst (q := 2) D247_1 ?_
  refine im_ld (q := 3) (i := 0) D247_2 rfl rfl rfl ?_
  refine im_callV (q := 6) (kd := 1) (y := 248) (n := 0) (ci := 11) (a := 0) (vs := [.ref 0]) (r := [vI 0, .ref 7081]) (L2 := [some (.ref 0)]) D247_3 (im_cal cn_247 cl_13_110) (Or.inl rfl) rfl sf_0 rfl rfl rfl rfl hd ⟨rfl, trivial⟩ ?_
  refine hP.mono ?_
  rintro _ e6 M1 (⟨x4, rfl, rfl, hP⟩ | ⟨E_, rfl, hX⟩)
  · refine im_bkS ?_
    obtain ⟨hg5, hP⟩ := hP
    refine im_i2l (q := 7) D247_6 hg5 ?_
    refine im_last (q := 8) D247_7 sf_7081 (by decide) (by decide) (by decide) (im_32_64 hg5) ?_
    refine im_goto (q := 11) (t := 14) D247_8 rfl ?_
    refine im_iconst (q := 15) D247_14 ?_
    exact im_iret (q := 16) D247_15 rfl hP
  · rcases hX.1 with rfl
    · exact im_bkE rfl (hX.2 rfl)
set_option maxRecDepth 20000 in
set_option maxHeartbeats 4000000 in
theorem w_fuse_0 {g : im_g} {d : Nat} {e : im_E} {M : im_M} {K : im_K} {p1 : Int} (hd : 1 ≤ d) (hP : im_T g (d - 1) 250 0 [some (.ref 0), some (vI p1)] [] e M (im_rx (im_r0 (fun  e_ M1 => e = e_ ∧ K (.inl (some (vI 0))) e M1)) (fun E_ e_ M_ => (E_ = "java/lang/IllegalArgumentException" ∨ E_ = "java/lang/IllegalStateException") ∧ (E_ = "java/lang/IllegalArgumentException" → K (.inl (some (vI 1))) e_ M_) ∧ (E_ = "java/lang/IllegalStateException" → K (.inl (some (vI 2))) e_ M_)))) : im_T g d 249 0 [some (.ref 0), some (vI p1), none] [] e M K := by
  refine im_ld (q := 1) (i := 0) D249_0 rfl rfl rfl ?_
  refine im_ld (q := 2) (i := 1) D249_1 rfl rfl rfl ?_
  refine im_callV (q := 5) (kd := 1) (y := 250) (n := 1) (ci := 11) (a := 0) (vs := [.ref 0, vI p1]) (r := []) (L2 := [some (.ref 0), some (vI p1)]) D249_2 (im_cal cn_249 cl_13_113) (Or.inl rfl) rfl sf_0 rfl rfl rfl rfl hd ⟨rfl, rfl, trivial⟩ ?_
  refine hP.mono ?_
  rintro _ e4 M1 (⟨rfl, rfl, hP⟩ | ⟨E_, rfl, hX⟩)
  · refine im_bkN ?_
    refine im_goto (q := 8) (t := 14) D249_5 rfl ?_
    refine im_iconst (q := 15) D249_14 ?_
    exact im_iret (q := 16) D249_15 rfl hP
  · rcases hX.1 with rfl | rfl
    · exact im_bkE rfl (hX.2.1 rfl)
    · exact im_bkE rfl (hX.2.2 rfl)
set_option maxRecDepth 20000 in
set_option maxHeartbeats 4000000 in
theorem w_peek_0 {g : im_g} {d : Nat} {e : im_E} {M : im_M} {K : im_K} {p1 : Int} (hd : 1 ≤ d) (hP : im_T g (d - 1) 252 0 [some (.ref 0), some (vI p1)] [] e M (im_rx (im_ri (fun x4 e_ M1 => e = e_ ∧ (im_i32 x4) ∧ K (.inl (some (vI 0))) e (im_u M1 7081 0 x4))) (fun E_ e_ M_ => (E_ = "java/lang/IndexOutOfBoundsException") ∧ (E_ = "java/lang/IndexOutOfBoundsException" → K (.inl (some (vI 1))) e_ M_)))) : im_T g d 251 0 [some (.ref 0), some (vI p1), some (.ref 7081), none] [] e M K := by
  refine im_ld (q := 1) (i := 2) D251_0 rfl rfl rfl ?_
  refine im_iconst (q := 2) D251_1 ?_
  refine im_ld (q := 3) (i := 0) D251_2 rfl rfl rfl ?_
  refine im_ld (q := 4) (i := 1) D251_3 rfl rfl rfl ?_
  refine im_callV (q := 7) (kd := 1) (y := 252) (n := 1) (ci := 11) (a := 0) (vs := [.ref 0, vI p1]) (r := [vI 0, .ref 7081]) (L2 := [some (.ref 0), some (vI p1)]) D251_4 (im_cal cn_251 cl_13_117) (Or.inl rfl) rfl sf_0 rfl rfl rfl rfl hd ⟨rfl, rfl, trivial⟩ ?_
  refine hP.mono ?_
  rintro _ e6 M1 (⟨x4, rfl, rfl, hP⟩ | ⟨E_, rfl, hX⟩)
  · refine im_bkS ?_
    obtain ⟨hg5, hP⟩ := hP
    refine im_i2l (q := 8) D251_7 hg5 ?_
    refine im_last (q := 9) D251_8 sf_7081 (by decide) (by decide) (by decide) (im_32_64 hg5) ?_
    refine im_goto (q := 12) (t := 15) D251_9 rfl ?_
    refine im_iconst (q := 16) D251_15 ?_
    exact im_iret (q := 17) D251_16 rfl hP
  · rcases hX.1 with rfl
    · exact im_bkE rfl (hX.2 rfl)
set_option maxRecDepth 20000 in
set_option maxHeartbeats 4000000 in
theorem w_poke_0 {g : im_g} {d : Nat} {e : im_E} {M : im_M} {K : im_K} {p1 p2 : Int} (hd : 1 ≤ d) (hP : im_T g (d - 1) 254 0 [some (.ref 0), some (vI p1), some (vI p2), none] [] e M (im_rx (im_ri (fun x4 e_ M1 => e = e_ ∧ (im_i32 x4) ∧ K (.inl (some (vI 0))) e (im_u M1 7081 0 x4))) (fun E_ e_ M_ => (E_ = "java/lang/IndexOutOfBoundsException" ∨ E_ = "java/lang/IllegalArgumentException" ∨ E_ = "java/lang/IllegalStateException") ∧ (E_ = "java/lang/IndexOutOfBoundsException" → K (.inl (some (vI 1))) e_ M_) ∧ (E_ = "java/lang/IllegalArgumentException" → K (.inl (some (vI 2))) e_ M_) ∧ (E_ = "java/lang/IllegalStateException" → K (.inl (some (vI 3))) e_ M_)))) : im_T g d 253 0 [some (.ref 0), some (vI p1), some (vI p2), some (.ref 7081), none] [] e M K := by
  refine im_ld (q := 1) (i := 3) D253_0 rfl rfl rfl ?_
  refine im_iconst (q := 2) D253_1 ?_
  refine im_ld (q := 3) (i := 0) D253_2 rfl rfl rfl ?_
  refine im_ld (q := 4) (i := 1) D253_3 rfl rfl rfl ?_
  refine im_ld (q := 5) (i := 2) D253_4 rfl rfl rfl ?_
  refine im_callV (q := 8) (kd := 1) (y := 254) (n := 2) (ci := 11) (a := 0) (vs := [.ref 0, vI p1, vI p2]) (r := [vI 0, .ref 7081]) (L2 := [some (.ref 0), some (vI p1), some (vI p2), none]) D253_5 (im_cal cn_253 cl_13_120) (Or.inl rfl) rfl sf_0 rfl rfl rfl rfl hd ⟨rfl, rfl, rfl, trivial⟩ ?_
  refine hP.mono ?_
  rintro _ e6 M1 (⟨x4, rfl, rfl, hP⟩ | ⟨E_, rfl, hX⟩)
  · refine im_bkS ?_
    obtain ⟨hg5, hP⟩ := hP
    refine im_i2l (q := 9) D253_8 hg5 ?_
    refine im_last (q := 10) D253_9 sf_7081 (by decide) (by decide) (by decide) (im_32_64 hg5) ?_
    refine im_goto (q := 13) (t := 25) D253_10 rfl ?_
    refine im_iconst (q := 26) D253_25 ?_
    exact im_iret (q := 27) D253_26 rfl hP
  · rcases hX.1 with rfl | rfl | rfl
    · exact im_bkE rfl (hX.2.1 rfl)
    · exact im_bkE rfl (hX.2.2.1 rfl)
    · exact im_bkE rfl (hX.2.2.2 rfl)
set_option maxRecDepth 20000 in
set_option maxHeartbeats 4000000 in
theorem w_cut_0 {g : im_g} {d : Nat} {e : im_E} {M : im_M} {K : im_K} (hd : 1 ≤ d) (hP : im_T g (d - 1) 256 0 [some (.ref 0)] [] e M (im_rx (im_r0 (fun  e_ M1 => e = e_ ∧ K (.inl (some (vI 0))) e M1)) (fun E_ e_ M_ => (E_ = "java/lang/IllegalStateException") ∧ (E_ = "java/lang/IllegalStateException" → K (.inl (some (vI 1))) e_ M_)))) : im_T g d 255 0 [some (.ref 0), none] [] e M K := by
  refine im_ld (q := 1) (i := 0) D255_0 rfl rfl rfl ?_
  refine im_callV (q := 4) (kd := 1) (y := 256) (n := 0) (ci := 11) (a := 0) (vs := [.ref 0]) (r := []) (L2 := [some (.ref 0)]) D255_1 (im_cal cn_255 cl_13_124) (Or.inl rfl) rfl sf_0 rfl rfl rfl rfl hd ⟨rfl, trivial⟩ ?_
  refine hP.mono ?_
  rintro _ e4 M1 (⟨rfl, rfl, hP⟩ | ⟨E_, rfl, hX⟩)
  · refine im_bkN ?_
    refine im_goto (q := 7) (t := 10) D255_4 rfl ?_
    refine im_iconst (q := 11) D255_10 ?_
    exact im_iret (q := 12) D255_11 rfl hP
  · rcases hX.1 with rfl
    · exact im_bkE rfl (hX.2 rfl)
set_option maxRecDepth 20000 in
set_option maxHeartbeats 4000000 in
theorem w_told_0 {g : im_g} {d : Nat} {e : im_E} {M : im_M} {K : im_K} {p1 : Int} (hd : 1 ≤ d) (hP : im_T g (d - 1) 258 0 [some (.ref 0), some (vI p1)] [] e M (im_rx (im_ri (fun x4 e_ M1 => e = e_ ∧ (im_i32 x4) ∧ K (.inl (some (vI 0))) e (im_u M1 7081 0 x4))) (fun E_ e_ M_ => (E_ = "java/lang/IllegalArgumentException") ∧ (E_ = "java/lang/IllegalArgumentException" → K (.inl (some (vI 1))) e_ M_)))) : im_T g d 257 0 [some (.ref 0), some (vI p1), some (.ref 7081), none] [] e M K := by
  refine im_ld (q := 1) (i := 2) D257_0 rfl rfl rfl ?_
  refine im_iconst (q := 2) D257_1 ?_
  refine im_ld (q := 3) (i := 0) D257_2 rfl rfl rfl ?_
  refine im_ld (q := 4) (i := 1) D257_3 rfl rfl rfl ?_
  refine im_callV (q := 7) (kd := 1) (y := 258) (n := 1) (ci := 11) (a := 0) (vs := [.ref 0, vI p1]) (r := [vI 0, .ref 7081]) (L2 := [some (.ref 0), some (vI p1)]) D257_4 (im_cal cn_257 cl_13_127) (Or.inl rfl) rfl sf_0 rfl rfl rfl rfl hd ⟨rfl, rfl, trivial⟩ ?_
  refine hP.mono ?_
  rintro _ e6 M1 (⟨x4, rfl, rfl, hP⟩ | ⟨E_, rfl, hX⟩)
  · refine im_bkS ?_
    obtain ⟨hg5, hP⟩ := hP
    refine im_i2l (q := 8) D257_7 hg5 ?_
    refine im_last (q := 9) D257_8 sf_7081 (by decide) (by decide) (by decide) (im_32_64 hg5) ?_
    refine im_goto (q := 12) (t := 15) D257_9 rfl ?_
    refine im_iconst (q := 16) D257_15 ?_
    exact im_iret (q := 17) D257_16 rfl hP
  · rcases hX.1 with rfl
    · exact im_bkE rfl (hX.2 rfl)

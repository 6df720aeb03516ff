/-! blocks of the reference -/
theorem D262_0 {g : im_g} : im_D g 262 0 (.aload_n 0) 1 := im_D.of (by decide +kernel)
theorem D262_1 {g : im_g} : im_D g 262 1 (.getfield 409) 4 := im_D.of (by decide +kernel)
theorem D262_4 {g : im_g} : im_D g 262 4 (.ireturn) 5 := im_D.of (by decide +kernel)
theorem D263_0 {g : im_g} : im_D g 263 0 (.aload_n 0) 1 := im_D.of (by decide +kernel)
theorem D263_1 {g : im_g} : im_D g 263 1 (.iconst 1) 2 := im_D.of (by decide +kernel)
theorem D263_2 {g : im_g} : im_D g 263 2 (.iconst 1) 3 := im_D.of (by decide +kernel)
theorem D263_3 {g : im_g} : im_D g 263 3 (.aload_n 0) 4 := im_D.of (by decide +kernel)
theorem D263_4 {g : im_g} : im_D g 263 4 (.getfield 416) 7 := im_D.of (by decide +kernel)
theorem D263_7 {g : im_g} : im_D g 263 7 (.bipush 20) 9 := im_D.of (by decide +kernel)
theorem D263_9 {g : im_g} : im_D g 263 9 (.iadd) 10 := im_D.of (by decide +kernel)
theorem D263_10 {g : im_g} : im_D g 263 10 (.sipush 16384) 13 := im_D.of (by decide +kernel)
theorem D263_13 {g : im_g} : im_D g 263 13 (.if_icmp .gt 7) 16 := im_D.of (by decide +kernel)
theorem D263_16 {g : im_g} : im_D g 263 16 (.iconst 1) 17 := im_D.of (by decide +kernel)
theorem D263_17 {g : im_g} : im_D g 263 17 (.goto 4) 20 := im_D.of (by decide +kernel)
theorem D263_20 {g : im_g} : im_D g 263 20 (.iconst 0) 21 := im_D.of (by decide +kernel)
theorem D263_21 {g : im_g} : im_D g 263 21 (.iconst 1) 22 := im_D.of (by decide +kernel)
theorem D263_22 {g : im_g} : im_D g 263 22 (.invokevirtual 419) 25 := im_D.of (by decide +kernel)
theorem D263_25 {g : im_g} : im_D g 263 25 (.ifCond .ne 5) 28 := im_D.of (by decide +kernel)
theorem D263_28 {g : im_g} : im_D g 263 28 (.iconst 0) 29 := im_D.of (by decide +kernel)
theorem D263_29 {g : im_g} : im_D g 263 29 (.ireturn) 30 := im_D.of (by decide +kernel)
theorem D263_30 {g : im_g} : im_D g 263 30 (.iconst 0) 31 := im_D.of (by decide +kernel)
theorem D263_31 {g : im_g} : im_D g 263 31 (.istore 6) 33 := im_D.of (by decide +kernel)
theorem D263_33 {g : im_g} : im_D g 263 33 (.iload 6) 35 := im_D.of (by decide +kernel)
theorem D263_35 {g : im_g} : im_D g 263 35 (.bipush 20) 37 := im_D.of (by decide +kernel)
theorem D263_37 {g : im_g} : im_D g 263 37 (.if_icmp .ge 93) 40 := im_D.of (by decide +kernel)
theorem D263_40 {g : im_g} : im_D g 263 40 (.iload 6) 42 := im_D.of (by decide +kernel)
theorem D263_42 {g : im_g} : im_D g 263 42 (.iconst 4) 43 := im_D.of (by decide +kernel)
theorem D263_43 {g : im_g} : im_D g 263 43 (.if_icmp .ge 7) 46 := im_D.of (by decide +kernel)
theorem D263_46 {g : im_g} : im_D g 263 46 (.iload_n 1) 47 := im_D.of (by decide +kernel)
theorem D263_47 {g : im_g} : im_D g 263 47 (.goto 39) 50 := im_D.of (by decide +kernel)
theorem D263_50 {g : im_g} : im_D g 263 50 (.iload 6) 52 := im_D.of (by decide +kernel)
theorem D263_52 {g : im_g} : im_D g 263 52 (.bipush 8) 54 := im_D.of (by decide +kernel)
theorem D263_54 {g : im_g} : im_D g 263 54 (.if_icmp .ge 7) 57 := im_D.of (by decide +kernel)
theorem D263_57 {g : im_g} : im_D g 263 57 (.iload_n 2) 58 := im_D.of (by decide +kernel)
theorem D263_58 {g : im_g} : im_D g 263 58 (.goto 28) 61 := im_D.of (by decide +kernel)
theorem D263_61 {g : im_g} : im_D g 263 61 (.iload 6) 63 := im_D.of (by decide +kernel)
theorem D263_63 {g : im_g} : im_D g 263 63 (.bipush 12) 65 := im_D.of (by decide +kernel)
theorem D263_65 {g : im_g} : im_D g 263 65 (.if_icmp .ge 7) 68 := im_D.of (by decide +kernel)
theorem D263_68 {g : im_g} : im_D g 263 68 (.iload_n 3) 69 := im_D.of (by decide +kernel)
theorem D263_69 {g : im_g} : im_D g 263 69 (.goto 17) 72 := im_D.of (by decide +kernel)
theorem D263_72 {g : im_g} : im_D g 263 72 (.iload 6) 74 := im_D.of (by decide +kernel)
theorem D263_74 {g : im_g} : im_D g 263 74 (.bipush 16) 76 := im_D.of (by decide +kernel)
theorem D263_76 {g : im_g} : im_D g 263 76 (.if_icmp .ge 8) 79 := im_D.of (by decide +kernel)
theorem D263_79 {g : im_g} : im_D g 263 79 (.iload 4) 81 := im_D.of (by decide +kernel)
theorem D263_81 {g : im_g} : im_D g 263 81 (.goto 5) 84 := im_D.of (by decide +kernel)
theorem D263_84 {g : im_g} : im_D g 263 84 (.iload 5) 86 := im_D.of (by decide +kernel)
theorem D263_86 {g : im_g} : im_D g 263 86 (.istore 7) 88 := im_D.of (by decide +kernel)
theorem D263_88 {g : im_g} : im_D g 263 88 (.aload_n 0) 89 := im_D.of (by decide +kernel)
theorem D263_89 {g : im_g} : im_D g 263 89 (.getfield 7) 92 := im_D.of (by decide +kernel)
theorem D263_92 {g : im_g} : im_D g 263 92 (.aload_n 0) 93 := im_D.of (by decide +kernel)
theorem D263_93 {g : im_g} : im_D g 263 93 (.getfield 416) 96 := im_D.of (by decide +kernel)
theorem D263_96 {g : im_g} : im_D g 263 96 (.iload 7) 98 := im_D.of (by decide +kernel)
theorem D263_98 {g : im_g} : im_D g 263 98 (.bipush 24) 100 := im_D.of (by decide +kernel)
theorem D263_100 {g : im_g} : im_D g 263 100 (.bipush 8) 102 := im_D.of (by decide +kernel)
theorem D263_102 {g : im_g} : im_D g 263 102 (.iload 6) 104 := im_D.of (by decide +kernel)
theorem D263_104 {g : im_g} : im_D g 263 104 (.iconst 4) 105 := im_D.of (by decide +kernel)
theorem D263_105 {g : im_g} : im_D g 263 105 (.irem) 106 := im_D.of (by decide +kernel)
theorem D263_106 {g : im_g} : im_D g 263 106 (.imul) 107 := im_D.of (by decide +kernel)
theorem D263_107 {g : im_g} : im_D g 263 107 (.isub) 108 := im_D.of (by decide +kernel)
theorem D263_108 {g : im_g} : im_D g 263 108 (.ishr) 109 := im_D.of (by decide +kernel)
theorem D263_109 {g : im_g} : im_D g 263 109 (.sipush 255) 112 := im_D.of (by decide +kernel)
theorem D263_112 {g : im_g} : im_D g 263 112 (.iand) 113 := im_D.of (by decide +kernel)
theorem D263_113 {g : im_g} : im_D g 263 113 (.iastore) 114 := im_D.of (by decide +kernel)
theorem D263_114 {g : im_g} : im_D g 263 114 (.aload_n 0) 115 := im_D.of (by decide +kernel)
theorem D263_115 {g : im_g} : im_D g 263 115 (.dup) 116 := im_D.of (by decide +kernel)
theorem D263_116 {g : im_g} : im_D g 263 116 (.getfield 416) 119 := im_D.of (by decide +kernel)
theorem D263_119 {g : im_g} : im_D g 263 119 (.iconst 1) 120 := im_D.of (by decide +kernel)
theorem D263_120 {g : im_g} : im_D g 263 120 (.iadd) 121 := im_D.of (by decide +kernel)
theorem D263_121 {g : im_g} : im_D g 263 121 (.putfield 416) 124 := im_D.of (by decide +kernel)
theorem D263_124 {g : im_g} : im_D g 263 124 (.iinc 6 1) 127 := im_D.of (by decide +kernel)
theorem D263_127 {g : im_g} : im_D g 263 127 (.goto (-94)) 130 := im_D.of (by decide +kernel)
theorem D263_130 {g : im_g} : im_D g 263 130 (.aload_n 0) 131 := im_D.of (by decide +kernel)
theorem D263_131 {g : im_g} : im_D g 263 131 (.getfield 416) 134 := im_D.of (by decide +kernel)
theorem D263_134 {g : im_g} : im_D g 263 134 (.ireturn) 135 := im_D.of (by decide +kernel)
theorem D264_0 {g : im_g} : im_D g 264 0 (.aload_n 0) 1 := im_D.of (by decide +kernel)
theorem D264_1 {g : im_g} : im_D g 264 1 (.aload_n 0) 2 := im_D.of (by decide +kernel)
theorem D264_2 {g : im_g} : im_D g 264 2 (.getfield 412) 5 := im_D.of (by decide +kernel)
theorem D264_5 {g : im_g} : im_D g 264 5 (.ifCond .eq 7) 8 := im_D.of (by decide +kernel)
theorem D264_8 {g : im_g} : im_D g 264 8 (.iload_n 1) 9 := im_D.of (by decide +kernel)
theorem D264_9 {g : im_g} : im_D g 264 9 (.goto 29) 12 := im_D.of (by decide +kernel)
theorem D264_12 {g : im_g} : im_D g 264 12 (.iload_n 2) 13 := im_D.of (by decide +kernel)
theorem D264_13 {g : im_g} : im_D g 264 13 (.ifCond .ne 7) 16 := im_D.of (by decide +kernel)
theorem D264_16 {g : im_g} : im_D g 264 16 (.iconst 1) 17 := im_D.of (by decide +kernel)
theorem D264_17 {g : im_g} : im_D g 264 17 (.goto 21) 20 := im_D.of (by decide +kernel)
theorem D264_20 {g : im_g} : im_D g 264 20 (.iload_n 3) 21 := im_D.of (by decide +kernel)
theorem D264_21 {g : im_g} : im_D g 264 21 (.ifCond .ne 7) 24 := im_D.of (by decide +kernel)
theorem D264_24 {g : im_g} : im_D g 264 24 (.iconst 2) 25 := im_D.of (by decide +kernel)
theorem D264_25 {g : im_g} : im_D g 264 25 (.goto 13) 28 := im_D.of (by decide +kernel)
theorem D264_28 {g : im_g} : im_D g 264 28 (.iload 4) 30 := im_D.of (by decide +kernel)
theorem D264_30 {g : im_g} : im_D g 264 30 (.ifCond .ne 7) 33 := im_D.of (by decide +kernel)
theorem D264_33 {g : im_g} : im_D g 264 33 (.iconst 3) 34 := im_D.of (by decide +kernel)
theorem D264_34 {g : im_g} : im_D g 264 34 (.goto 4) 37 := im_D.of (by decide +kernel)
theorem D264_37 {g : im_g} : im_D g 264 37 (.iconst 0) 38 := im_D.of (by decide +kernel)
theorem D264_38 {g : im_g} : im_D g 264 38 (.putfield 409) 41 := im_D.of (by decide +kernel)
theorem D264_41 {g : im_g} : im_D g 264 41 (.aload_n 0) 42 := im_D.of (by decide +kernel)
theorem D264_42 {g : im_g} : im_D g 264 42 (.getfield 409) 45 := im_D.of (by decide +kernel)
theorem D264_45 {g : im_g} : im_D g 264 45 (.ifCond .ne 7) 48 := im_D.of (by decide +kernel)
theorem D264_48 {g : im_g} : im_D g 264 48 (.iconst 1) 49 := im_D.of (by decide +kernel)
theorem D264_49 {g : im_g} : im_D g 264 49 (.goto 4) 52 := im_D.of (by decide +kernel)
theorem D264_52 {g : im_g} : im_D g 264 52 (.iconst 0) 53 := im_D.of (by decide +kernel)
theorem D264_53 {g : im_g} : im_D g 264 53 (.ireturn) 54 := im_D.of (by decide +kernel)
theorem D265_0 {g : im_g} : im_D g 265 0 (.aload_n 0) 1 := im_D.of (by decide +kernel)
theorem D265_1 {g : im_g} : im_D g 265 1 (.iconst 1) 2 := im_D.of (by decide +kernel)
theorem D265_2 {g : im_g} : im_D g 265 2 (.iconst 1) 3 := im_D.of (by decide +kernel)
theorem D265_3 {g : im_g} : im_D g 265 3 (.iload_n 1) 4 := im_D.of (by decide +kernel)
theorem D265_4 {g : im_g} : im_D g 265 4 (.ifCond .lt 7) 7 := im_D.of (by decide +kernel)
theorem D265_7 {g : im_g} : im_D g 265 7 (.iconst 1) 8 := im_D.of (by decide +kernel)
theorem D265_8 {g : im_g} : im_D g 265 8 (.goto 4) 11 := im_D.of (by decide +kernel)
theorem D265_11 {g : im_g} : im_D g 265 11 (.iconst 0) 12 := im_D.of (by decide +kernel)
theorem D265_12 {g : im_g} : im_D g 265 12 (.iconst 1) 13 := im_D.of (by decide +kernel)
theorem D265_13 {g : im_g} : im_D g 265 13 (.invokevirtual 419) 16 := im_D.of (by decide +kernel)
theorem D265_16 {g : im_g} : im_D g 265 16 (.ifCond .ne 5) 19 := im_D.of (by decide +kernel)
theorem D265_19 {g : im_g} : im_D g 265 19 (.iconst 0) 20 := im_D.of (by decide +kernel)
theorem D265_20 {g : im_g} : im_D g 265 20 (.ireturn) 21 := im_D.of (by decide +kernel)
theorem D265_21 {g : im_g} : im_D g 265 21 (.aload_n 0) 22 := im_D.of (by decide +kernel)
theorem D265_22 {g : im_g} : im_D g 265 22 (.iload_n 1) 23 := im_D.of (by decide +kernel)
theorem D265_23 {g : im_g} : im_D g 265 23 (.aload_n 0) 24 := im_D.of (by decide +kernel)
theorem D265_24 {g : im_g} : im_D g 265 24 (.getfield 416) 27 := im_D.of (by decide +kernel)
theorem D265_27 {g : im_g} : im_D g 265 27 (.if_icmp .ge 7) 30 := im_D.of (by decide +kernel)
theorem D265_30 {g : im_g} : im_D g 265 30 (.iload_n 1) 31 := im_D.of (by decide +kernel)
theorem D265_31 {g : im_g} : im_D g 265 31 (.goto 7) 34 := im_D.of (by decide +kernel)
theorem D265_34 {g : im_g} : im_D g 265 34 (.aload_n 0) 35 := im_D.of (by decide +kernel)
theorem D265_35 {g : im_g} : im_D g 265 35 (.getfield 416) 38 := im_D.of (by decide +kernel)
theorem D265_38 {g : im_g} : im_D g 265 38 (.putfield 416) 41 := im_D.of (by decide +kernel)
theorem D265_41 {g : im_g} : im_D g 265 41 (.aload_n 0) 42 := im_D.of (by decide +kernel)
theorem D265_42 {g : im_g} : im_D g 265 42 (.getfield 416) 45 := im_D.of (by decide +kernel)
theorem D265_45 {g : im_g} : im_D g 265 45 (.ireturn) 46 := im_D.of (by decide +kernel)
theorem D266_0 {g : im_g} : im_D g 266 0 (.aload_n 0) 1 := im_D.of (by decide +kernel)
theorem D266_1 {g : im_g} : im_D g 266 1 (.iconst 1) 2 := im_D.of (by decide +kernel)
theorem D266_2 {g : im_g} : im_D g 266 2 (.iconst 1) 3 := im_D.of (by decide +kernel)
theorem D266_3 {g : im_g} : im_D g 266 3 (.iconst 1) 4 := im_D.of (by decide +kernel)
theorem D266_4 {g : im_g} : im_D g 266 4 (.iconst 1) 5 := im_D.of (by decide +kernel)
theorem D266_5 {g : im_g} : im_D g 266 5 (.invokevirtual 419) 8 := im_D.of (by decide +kernel)
theorem D266_8 {g : im_g} : im_D g 266 8 (.ifCond .eq 10) 11 := im_D.of (by decide +kernel)
theorem D266_11 {g : im_g} : im_D g 266 11 (.aload_n 0) 12 := im_D.of (by decide +kernel)
theorem D266_12 {g : im_g} : im_D g 266 12 (.getfield 423) 15 := im_D.of (by decide +kernel)
theorem D266_15 {g : im_g} : im_D g 266 15 (.goto 4) 18 := im_D.of (by decide +kernel)
theorem D266_18 {g : im_g} : im_D g 266 18 (.iconst 0) 19 := im_D.of (by decide +kernel)
theorem D266_19 {g : im_g} : im_D g 266 19 (.ireturn) 20 := im_D.of (by decide +kernel)
theorem D267_0 {g : im_g} : im_D g 267 0 (.aload_n 0) 1 := im_D.of (by decide +kernel)
theorem D267_1 {g : im_g} : im_D g 267 1 (.iconst 1) 2 := im_D.of (by decide +kernel)
theorem D267_2 {g : im_g} : im_D g 267 2 (.iconst 1) 3 := im_D.of (by decide +kernel)
theorem D267_3 {g : im_g} : im_D g 267 3 (.iconst 1) 4 := im_D.of (by decide +kernel)
theorem D267_4 {g : im_g} : im_D g 267 4 (.iconst 1) 5 := im_D.of (by decide +kernel)
theorem D267_5 {g : im_g} : im_D g 267 5 (.invokevirtual 419) 8 := im_D.of (by decide +kernel)
theorem D267_8 {g : im_g} : im_D g 267 8 (.ifCond .ne 5) 11 := im_D.of (by decide +kernel)
theorem D267_11 {g : im_g} : im_D g 267 11 (.lconst 0) 12 := im_D.of (by decide +kernel)
theorem D267_12 {g : im_g} : im_D g 267 12 (.lreturn) 13 := im_D.of (by decide +kernel)
theorem D267_13 {g : im_g} : im_D g 267 13 (.lconst 0) 14 := im_D.of (by decide +kernel)
theorem D267_14 {g : im_g} : im_D g 267 14 (.lstore_n 2) 15 := im_D.of (by decide +kernel)
theorem D267_15 {g : im_g} : im_D g 267 15 (.iconst 0) 16 := im_D.of (by decide +kernel)
theorem D267_16 {g : im_g} : im_D g 267 16 (.istore 4) 18 := im_D.of (by decide +kernel)
theorem D267_18 {g : im_g} : im_D g 267 18 (.iload 4) 20 := im_D.of (by decide +kernel)
theorem D267_20 {g : im_g} : im_D g 267 20 (.bipush 8) 22 := im_D.of (by decide +kernel)
theorem D267_22 {g : im_g} : im_D g 267 22 (.if_icmp .ge 70) 25 := im_D.of (by decide +kernel)
theorem D267_25 {g : im_g} : im_D g 267 25 (.iload_n 1) 26 := im_D.of (by decide +kernel)
theorem D267_26 {g : im_g} : im_D g 267 26 (.i2l) 27 := im_D.of (by decide +kernel)
theorem D267_27 {g : im_g} : im_D g 267 27 (.lconst 0) 28 := im_D.of (by decide +kernel)
theorem D267_28 {g : im_g} : im_D g 267 28 (.ldc2_w 426) 31 := im_D.of (by decide +kernel)
theorem D267_31 {g : im_g} : im_D g 267 31 (.invokestatic 428) 34 := im_D.of (by decide +kernel)
theorem D267_34 {g : im_g} : im_D g 267 34 (.ifCond .eq 21) 37 := im_D.of (by decide +kernel)
theorem D267_37 {g : im_g} : im_D g 267 37 (.bipush 8) 39 := im_D.of (by decide +kernel)
theorem D267_39 {g : im_g} : im_D g 267 39 (.iload_n 1) 40 := im_D.of (by decide +kernel)
theorem D267_40 {g : im_g} : im_D g 267 40 (.imul) 41 := im_D.of (by decide +kernel)
theorem D267_41 {g : im_g} : im_D g 267 41 (.iload 4) 43 := im_D.of (by decide +kernel)
theorem D267_43 {g : im_g} : im_D g 267 43 (.iadd) 44 := im_D.of (by decide +kernel)
theorem D267_44 {g : im_g} : im_D g 267 44 (.aload_n 0) 45 := im_D.of (by decide +kernel)
theorem D267_45 {g : im_g} : im_D g 267 45 (.getfield 423) 48 := im_D.of (by decide +kernel)
theorem D267_48 {g : im_g} : im_D g 267 48 (.if_icmp .ge 7) 51 := im_D.of (by decide +kernel)
theorem D267_51 {g : im_g} : im_D g 267 51 (.iconst 1) 52 := im_D.of (by decide +kernel)
theorem D267_52 {g : im_g} : im_D g 267 52 (.goto 4) 55 := im_D.of (by decide +kernel)
theorem D267_55 {g : im_g} : im_D g 267 55 (.iconst 0) 56 := im_D.of (by decide +kernel)
theorem D267_56 {g : im_g} : im_D g 267 56 (.istore 5) 58 := im_D.of (by decide +kernel)
theorem D267_58 {g : im_g} : im_D g 267 58 (.lload_n 2) 59 := im_D.of (by decide +kernel)
theorem D267_59 {g : im_g} : im_D g 267 59 (.bipush 8) 61 := im_D.of (by decide +kernel)
theorem D267_61 {g : im_g} : im_D g 267 61 (.lshl) 62 := im_D.of (by decide +kernel)
theorem D267_62 {g : im_g} : im_D g 267 62 (.iload 5) 64 := im_D.of (by decide +kernel)
theorem D267_64 {g : im_g} : im_D g 267 64 (.ifCond .eq 18) 67 := im_D.of (by decide +kernel)
theorem D267_67 {g : im_g} : im_D g 267 67 (.aload_n 0) 68 := im_D.of (by decide +kernel)
theorem D267_68 {g : im_g} : im_D g 267 68 (.getfield 13) 71 := im_D.of (by decide +kernel)
theorem D267_71 {g : im_g} : im_D g 267 71 (.bipush 8) 73 := im_D.of (by decide +kernel)
theorem D267_73 {g : im_g} : im_D g 267 73 (.iload_n 1) 74 := im_D.of (by decide +kernel)
theorem D267_74 {g : im_g} : im_D g 267 74 (.imul) 75 := im_D.of (by decide +kernel)
theorem D267_75 {g : im_g} : im_D g 267 75 (.iload 4) 77 := im_D.of (by decide +kernel)
theorem D267_77 {g : im_g} : im_D g 267 77 (.iadd) 78 := im_D.of (by decide +kernel)
theorem D267_78 {g : im_g} : im_D g 267 78 (.iaload) 79 := im_D.of (by decide +kernel)
theorem D267_79 {g : im_g} : im_D g 267 79 (.goto 4) 82 := im_D.of (by decide +kernel)
theorem D267_82 {g : im_g} : im_D g 267 82 (.iconst 0) 83 := im_D.of (by decide +kernel)
theorem D267_83 {g : im_g} : im_D g 267 83 (.i2l) 84 := im_D.of (by decide +kernel)
theorem D267_84 {g : im_g} : im_D g 267 84 (.lor) 85 := im_D.of (by decide +kernel)
theorem D267_85 {g : im_g} : im_D g 267 85 (.lstore_n 2) 86 := im_D.of (by decide +kernel)
theorem D267_86 {g : im_g} : im_D g 267 86 (.iinc 4 1) 89 := im_D.of (by decide +kernel)
theorem D267_89 {g : im_g} : im_D g 267 89 (.goto (-71)) 92 := im_D.of (by decide +kernel)
theorem D267_92 {g : im_g} : im_D g 267 92 (.lload_n 2) 93 := im_D.of (by decide +kernel)
theorem D267_93 {g : im_g} : im_D g 267 93 (.lreturn) 94 := im_D.of (by decide +kernel)
theorem D268_0 {g : im_g} : im_D g 268 0 (.lload_n 0) 1 := im_D.of (by decide +kernel)
theorem D268_1 {g : im_g} : im_D g 268 1 (.lload_n 2) 2 := im_D.of (by decide +kernel)
theorem D268_2 {g : im_g} : im_D g 268 2 (.lcmp) 3 := im_D.of (by decide +kernel)
theorem D268_3 {g : im_g} : im_D g 268 3 (.ifCond .lt 14) 6 := im_D.of (by decide +kernel)
theorem D268_6 {g : im_g} : im_D g 268 6 (.lload_n 0) 7 := im_D.of (by decide +kernel)
theorem D268_7 {g : im_g} : im_D g 268 7 (.lload 4) 9 := im_D.of (by decide +kernel)
theorem D268_9 {g : im_g} : im_D g 268 9 (.lcmp) 10 := im_D.of (by decide +kernel)
theorem D268_10 {g : im_g} : im_D g 268 10 (.ifCond .gt 7) 13 := im_D.of (by decide +kernel)
theorem D268_13 {g : im_g} : im_D g 268 13 (.iconst 1) 14 := im_D.of (by decide +kernel)
theorem D268_14 {g : im_g} : im_D g 268 14 (.goto 4) 17 := im_D.of (by decide +kernel)
theorem D268_17 {g : im_g} : im_D g 268 17 (.iconst 0) 18 := im_D.of (by decide +kernel)
theorem D268_18 {g : im_g} : im_D g 268 18 (.ireturn) 19 := im_D.of (by decide +kernel)
theorem D269_0 {g : im_g} : im_D g 269 0 (.aload_n 0) 1 := im_D.of (by decide +kernel)
theorem D269_1 {g : im_g} : im_D g 269 1 (.iconst 1) 2 := im_D.of (by decide +kernel)
theorem D269_2 {g : im_g} : im_D g 269 2 (.iconst 1) 3 := im_D.of (by decide +kernel)
theorem D269_3 {g : im_g} : im_D g 269 3 (.iconst 1) 4 := im_D.of (by decide +kernel)
theorem D269_4 {g : im_g} : im_D g 269 4 (.iconst 1) 5 := im_D.of (by decide +kernel)
theorem D269_5 {g : im_g} : im_D g 269 5 (.invokevirtual 419) 8 := im_D.of (by decide +kernel)
theorem D269_8 {g : im_g} : im_D g 269 8 (.ifCond .ne 5) 11 := im_D.of (by decide +kernel)
theorem D269_11 {g : im_g} : im_D g 269 11 (.iconst 0) 12 := im_D.of (by decide +kernel)
theorem D269_12 {g : im_g} : im_D g 269 12 (.ireturn) 13 := im_D.of (by decide +kernel)
theorem D269_13 {g : im_g} : im_D g 269 13 (.iconst 0) 14 := im_D.of (by decide +kernel)
theorem D269_14 {g : im_g} : im_D g 269 14 (.istore_n 1) 15 := im_D.of (by decide +kernel)
theorem D269_15 {g : im_g} : im_D g 269 15 (.iload_n 1) 16 := im_D.of (by decide +kernel)
theorem D269_16 {g : im_g} : im_D g 269 16 (.aload_n 0) 17 := im_D.of (by decide +kernel)
theorem D269_17 {g : im_g} : im_D g 269 17 (.getfield 416) 20 := im_D.of (by decide +kernel)
theorem D269_20 {g : im_g} : im_D g 269 20 (.if_icmp .ge 21) 23 := im_D.of (by decide +kernel)
theorem D269_23 {g : im_g} : im_D g 269 23 (.aload_n 0) 24 := im_D.of (by decide +kernel)
theorem D269_24 {g : im_g} : im_D g 269 24 (.getfield 13) 27 := im_D.of (by decide +kernel)
theorem D269_27 {g : im_g} : im_D g 269 27 (.iload_n 1) 28 := im_D.of (by decide +kernel)
theorem D269_28 {g : im_g} : im_D g 269 28 (.aload_n 0) 29 := im_D.of (by decide +kernel)
theorem D269_29 {g : im_g} : im_D g 269 29 (.getfield 7) 32 := im_D.of (by decide +kernel)
theorem D269_32 {g : im_g} : im_D g 269 32 (.iload_n 1) 33 := im_D.of (by decide +kernel)
theorem D269_33 {g : im_g} : im_D g 269 33 (.iaload) 34 := im_D.of (by decide +kernel)
theorem D269_34 {g : im_g} : im_D g 269 34 (.iastore) 35 := im_D.of (by decide +kernel)
theorem D269_35 {g : im_g} : im_D g 269 35 (.iinc 1 1) 38 := im_D.of (by decide +kernel)
theorem D269_38 {g : im_g} : im_D g 269 38 (.goto (-23)) 41 := im_D.of (by decide +kernel)
theorem D269_41 {g : im_g} : im_D g 269 41 (.aload_n 0) 42 := im_D.of (by decide +kernel)
theorem D269_42 {g : im_g} : im_D g 269 42 (.aload_n 0) 43 := im_D.of (by decide +kernel)
theorem D269_43 {g : im_g} : im_D g 269 43 (.getfield 416) 46 := im_D.of (by decide +kernel)
theorem D269_46 {g : im_g} : im_D g 269 46 (.putfield 423) 49 := im_D.of (by decide +kernel)
theorem D269_49 {g : im_g} : im_D g 269 49 (.aload_n 0) 50 := im_D.of (by decide +kernel)
theorem D269_50 {g : im_g} : im_D g 269 50 (.getfield 423) 53 := im_D.of (by decide +kernel)
theorem D269_53 {g : im_g} : im_D g 269 53 (.ireturn) 54 := im_D.of (by decide +kernel)
theorem D270_0 {g : im_g} : im_D g 270 0 (.aload_n 0) 1 := im_D.of (by decide +kernel)
theorem D270_1 {g : im_g} : im_D g 270 1 (.getfield 412) 4 := im_D.of (by decide +kernel)
theorem D270_4 {g : im_g} : im_D g 270 4 (.ifCond .eq 10) 7 := im_D.of (by decide +kernel)
theorem D270_7 {g : im_g} : im_D g 270 7 (.aload_n 0) 8 := im_D.of (by decide +kernel)
theorem D270_8 {g : im_g} : im_D g 270 8 (.iconst 2) 9 := im_D.of (by decide +kernel)
theorem D270_9 {g : im_g} : im_D g 270 9 (.putfield 409) 12 := im_D.of (by decide +kernel)
theorem D270_12 {g : im_g} : im_D g 270 12 (.iconst 0) 13 := im_D.of (by decide +kernel)
theorem D270_13 {g : im_g} : im_D g 270 13 (.ireturn) 14 := im_D.of (by decide +kernel)
theorem D270_14 {g : im_g} : im_D g 270 14 (.aload_n 0) 15 := im_D.of (by decide +kernel)
theorem D270_15 {g : im_g} : im_D g 270 15 (.invokevirtual 734) 18 := im_D.of (by decide +kernel)
theorem D270_18 {g : im_g} : im_D g 270 18 (.aload_n 0) 19 := im_D.of (by decide +kernel)
theorem D270_19 {g : im_g} : im_D g 270 19 (.iconst 2) 20 := im_D.of (by decide +kernel)
theorem D270_20 {g : im_g} : im_D g 270 20 (.iload_n 1) 21 := im_D.of (by decide +kernel)
theorem D270_21 {g : im_g} : im_D g 270 21 (.i2l) 22 := im_D.of (by decide +kernel)
theorem D270_22 {g : im_g} : im_D g 270 22 (.lconst 0) 23 := im_D.of (by decide +kernel)
theorem D270_23 {g : im_g} : im_D g 270 23 (.ldc2_w 729) 26 := im_D.of (by decide +kernel)
theorem D270_26 {g : im_g} : im_D g 270 26 (.invokestatic 428) 29 := im_D.of (by decide +kernel)
theorem D270_29 {g : im_g} : im_D g 270 29 (.iload_n 1) 30 := im_D.of (by decide +kernel)
theorem D270_30 {g : im_g} : im_D g 270 30 (.i2l) 31 := im_D.of (by decide +kernel)
theorem D270_31 {g : im_g} : im_D g 270 31 (.lconst 0) 32 := im_D.of (by decide +kernel)
theorem D270_32 {g : im_g} : im_D g 270 32 (.ldc2_w 729) 35 := im_D.of (by decide +kernel)
theorem D270_35 {g : im_g} : im_D g 270 35 (.invokestatic 428) 38 := im_D.of (by decide +kernel)
theorem D270_38 {g : im_g} : im_D g 270 38 (.ifCond .eq 16) 41 := im_D.of (by decide +kernel)
theorem D270_41 {g : im_g} : im_D g 270 41 (.aload_n 0) 42 := im_D.of (by decide +kernel)
theorem D270_42 {g : im_g} : im_D g 270 42 (.getfield 106) 45 := im_D.of (by decide +kernel)
theorem D270_45 {g : im_g} : im_D g 270 45 (.iload_n 1) 46 := im_D.of (by decide +kernel)
theorem D270_46 {g : im_g} : im_D g 270 46 (.baload) 47 := im_D.of (by decide +kernel)
theorem D270_47 {g : im_g} : im_D g 270 47 (.ifCond .ne 7) 50 := im_D.of (by decide +kernel)
theorem D270_50 {g : im_g} : im_D g 270 50 (.iconst 1) 51 := im_D.of (by decide +kernel)
theorem D270_51 {g : im_g} : im_D g 270 51 (.goto 4) 54 := im_D.of (by decide +kernel)
theorem D270_54 {g : im_g} : im_D g 270 54 (.iconst 0) 55 := im_D.of (by decide +kernel)
theorem D270_55 {g : im_g} : im_D g 270 55 (.iconst 1) 56 := im_D.of (by decide +kernel)
theorem D270_56 {g : im_g} : im_D g 270 56 (.invokevirtual 419) 59 := im_D.of (by decide +kernel)
theorem D270_59 {g : im_g} : im_D g 270 59 (.ifCond .ne 5) 62 := im_D.of (by decide +kernel)
theorem D270_62 {g : im_g} : im_D g 270 62 (.iconst 0) 63 := im_D.of (by decide +kernel)
theorem D270_63 {g : im_g} : im_D g 270 63 (.ireturn) 64 := im_D.of (by decide +kernel)
theorem D270_64 {g : im_g} : im_D g 270 64 (.aload_n 0) 65 := im_D.of (by decide +kernel)
theorem D270_65 {g : im_g} : im_D g 270 65 (.iload_n 1) 66 := im_D.of (by decide +kernel)
theorem D270_66 {g : im_g} : im_D g 270 66 (.invokevirtual 737) 69 := im_D.of (by decide +kernel)
theorem D270_69 {g : im_g} : im_D g 270 69 (.istore_n 2) 70 := im_D.of (by decide +kernel)
theorem D270_70 {g : im_g} : im_D g 270 70 (.iload_n 2) 71 := im_D.of (by decide +kernel)
theorem D270_71 {g : im_g} : im_D g 270 71 (.ifCond .ne 15) 74 := im_D.of (by decide +kernel)
theorem D270_74 {g : im_g} : im_D g 270 74 (.aload_n 0) 75 := im_D.of (by decide +kernel)
theorem D270_75 {g : im_g} : im_D g 270 75 (.iconst 1) 76 := im_D.of (by decide +kernel)
theorem D270_76 {g : im_g} : im_D g 270 76 (.iconst 1) 77 := im_D.of (by decide +kernel)
theorem D270_77 {g : im_g} : im_D g 270 77 (.iload_n 1) 78 := im_D.of (by decide +kernel)
theorem D270_78 {g : im_g} : im_D g 270 78 (.i2l) 79 := im_D.of (by decide +kernel)
theorem D270_79 {g : im_g} : im_D g 270 79 (.lconst 0) 80 := im_D.of (by decide +kernel)
theorem D270_80 {g : im_g} : im_D g 270 80 (.lconst 0) 81 := im_D.of (by decide +kernel)
theorem D270_81 {g : im_g} : im_D g 270 81 (.iconst 1) 82 := im_D.of (by decide +kernel)
theorem D270_82 {g : im_g} : im_D g 270 82 (.invokevirtual 740) 85 := im_D.of (by decide +kernel)
theorem D270_85 {g : im_g} : im_D g 270 85 (.istore_n 2) 86 := im_D.of (by decide +kernel)
theorem D270_86 {g : im_g} : im_D g 270 86 (.iload_n 2) 87 := im_D.of (by decide +kernel)
theorem D270_87 {g : im_g} : im_D g 270 87 (.bipush (-100)) 89 := im_D.of (by decide +kernel)
theorem D270_89 {g : im_g} : im_D g 270 89 (.if_icmp .ne 10) 92 := im_D.of (by decide +kernel)
theorem D270_92 {g : im_g} : im_D g 270 92 (.aload_n 0) 93 := im_D.of (by decide +kernel)
theorem D270_93 {g : im_g} : im_D g 270 93 (.iconst 2) 94 := im_D.of (by decide +kernel)
theorem D270_94 {g : im_g} : im_D g 270 94 (.putfield 409) 97 := im_D.of (by decide +kernel)
theorem D270_97 {g : im_g} : im_D g 270 97 (.iconst 0) 98 := im_D.of (by decide +kernel)
theorem D270_98 {g : im_g} : im_D g 270 98 (.ireturn) 99 := im_D.of (by decide +kernel)
theorem D270_99 {g : im_g} : im_D g 270 99 (.iload_n 2) 100 := im_D.of (by decide +kernel)
theorem D270_100 {g : im_g} : im_D g 270 100 (.ifCond .ge 7) 103 := im_D.of (by decide +kernel)
theorem D270_103 {g : im_g} : im_D g 270 103 (.iload_n 2) 104 := im_D.of (by decide +kernel)
theorem D270_104 {g : im_g} : im_D g 270 104 (.goto 8) 107 := im_D.of (by decide +kernel)
theorem D270_107 {g : im_g} : im_D g 270 107 (.aload_n 0) 108 := im_D.of (by decide +kernel)
theorem D270_108 {g : im_g} : im_D g 270 108 (.iload_n 1) 109 := im_D.of (by decide +kernel)
theorem D270_109 {g : im_g} : im_D g 270 109 (.invokevirtual 744) 112 := im_D.of (by decide +kernel)
theorem D270_112 {g : im_g} : im_D g 270 112 (.ireturn) 113 := im_D.of (by decide +kernel)
theorem D271_0 {g : im_g} : im_D g 271 0 (.iconst 0) 1 := im_D.of (by decide +kernel)
theorem D271_1 {g : im_g} : im_D g 271 1 (.istore_n 1) 2 := im_D.of (by decide +kernel)
theorem D271_2 {g : im_g} : im_D g 271 2 (.iload_n 1) 3 := im_D.of (by decide +kernel)
theorem D271_3 {g : im_g} : im_D g 271 3 (.aload_n 0) 4 := im_D.of (by decide +kernel)
theorem D271_4 {g : im_g} : im_D g 271 4 (.getfield 416) 7 := im_D.of (by decide +kernel)
theorem D271_7 {g : im_g} : im_D g 271 7 (.if_icmp .ge 21) 10 := im_D.of (by decide +kernel)
theorem D271_10 {g : im_g} : im_D g 271 10 (.aload_n 0) 11 := im_D.of (by decide +kernel)
theorem D271_11 {g : im_g} : im_D g 271 11 (.getfield 30) 14 := im_D.of (by decide +kernel)
theorem D271_14 {g : im_g} : im_D g 271 14 (.iload_n 1) 15 := im_D.of (by decide +kernel)
theorem D271_15 {g : im_g} : im_D g 271 15 (.aload_n 0) 16 := im_D.of (by decide +kernel)
theorem D271_16 {g : im_g} : im_D g 271 16 (.getfield 7) 19 := im_D.of (by decide +kernel)
theorem D271_19 {g : im_g} : im_D g 271 19 (.iload_n 1) 20 := im_D.of (by decide +kernel)
theorem D271_20 {g : im_g} : im_D g 271 20 (.iaload) 21 := im_D.of (by decide +kernel)
theorem D271_21 {g : im_g} : im_D g 271 21 (.iastore) 22 := im_D.of (by decide +kernel)
theorem D271_22 {g : im_g} : im_D g 271 22 (.iinc 1 1) 25 := im_D.of (by decide +kernel)
theorem D271_25 {g : im_g} : im_D g 271 25 (.goto (-23)) 28 := im_D.of (by decide +kernel)
theorem D271_28 {g : im_g} : im_D g 271 28 (.aload_n 0) 29 := im_D.of (by decide +kernel)
theorem D271_29 {g : im_g} : im_D g 271 29 (.aload_n 0) 30 := im_D.of (by decide +kernel)
theorem D271_30 {g : im_g} : im_D g 271 30 (.getfield 416) 33 := im_D.of (by decide +kernel)
theorem D271_33 {g : im_g} : im_D g 271 33 (.putfield 604) 36 := im_D.of (by decide +kernel)
theorem D271_36 {g : im_g} : im_D g 271 36 (.aload_n 0) 37 := im_D.of (by decide +kernel)
theorem D271_37 {g : im_g} : im_D g 271 37 (.iconst 0) 38 := im_D.of (by decide +kernel)
theorem D271_38 {g : im_g} : im_D g 271 38 (.putfield 416) 41 := im_D.of (by decide +kernel)
theorem D271_41 {g : im_g} : im_D g 271 41 (.return_) 42 := im_D.of (by decide +kernel)
theorem D272_0 {g : im_g} : im_D g 272 0 (.iload_n 1) 1 := im_D.of (by decide +kernel)
theorem D272_1 {g : im_g} : im_D g 272 1 (.i2l) 2 := im_D.of (by decide +kernel)
theorem D272_2 {g : im_g} : im_D g 272 2 (.lconst 0) 3 := im_D.of (by decide +kernel)
theorem D272_3 {g : im_g} : im_D g 272 3 (.ldc2_w 729) 6 := im_D.of (by decide +kernel)
theorem D272_6 {g : im_g} : im_D g 272 6 (.invokestatic 428) 9 := im_D.of (by decide +kernel)
theorem D272_9 {g : im_g} : im_D g 272 9 (.ifCond .eq 12) 12 := im_D.of (by decide +kernel)
theorem D272_12 {g : im_g} : im_D g 272 12 (.aload_n 0) 13 := im_D.of (by decide +kernel)
theorem D272_13 {g : im_g} : im_D g 272 13 (.getfield 106) 16 := im_D.of (by decide +kernel)
theorem D272_16 {g : im_g} : im_D g 272 16 (.iload_n 1) 17 := im_D.of (by decide +kernel)
theorem D272_17 {g : im_g} : im_D g 272 17 (.baload) 18 := im_D.of (by decide +kernel)
theorem D272_18 {g : im_g} : im_D g 272 18 (.ifCond .eq 6) 21 := im_D.of (by decide +kernel)
theorem D272_21 {g : im_g} : im_D g 272 21 (.bipush (-101)) 23 := im_D.of (by decide +kernel)
theorem D272_23 {g : im_g} : im_D g 272 23 (.ireturn) 24 := im_D.of (by decide +kernel)
theorem D272_24 {g : im_g} : im_D g 272 24 (.aload_n 0) 25 := im_D.of (by decide +kernel)
theorem D272_25 {g : im_g} : im_D g 272 25 (.invokevirtual 731) 28 := im_D.of (by decide +kernel)
theorem D272_28 {g : im_g} : im_D g 272 28 (.aload_n 0) 29 := im_D.of (by decide +kernel)
theorem D272_29 {g : im_g} : im_D g 272 29 (.getfield 403) 32 := im_D.of (by decide +kernel)
theorem D272_32 {g : im_g} : im_D g 272 32 (.ifCond .le 7) 35 := im_D.of (by decide +kernel)
theorem D272_35 {g : im_g} : im_D g 272 35 (.iconst (-1)) 36 := im_D.of (by decide +kernel)
theorem D272_36 {g : im_g} : im_D g 272 36 (.goto 19) 39 := im_D.of (by decide +kernel)
theorem D272_39 {g : im_g} : im_D g 272 39 (.aload_n 0) 40 := im_D.of (by decide +kernel)
theorem D272_40 {g : im_g} : im_D g 272 40 (.getfield 629) 43 := im_D.of (by decide +kernel)
theorem D272_43 {g : im_g} : im_D g 272 43 (.sipush 4000) 46 := im_D.of (by decide +kernel)
theorem D272_46 {g : im_g} : im_D g 272 46 (.if_icmp .le 8) 49 := im_D.of (by decide +kernel)
theorem D272_49 {g : im_g} : im_D g 272 49 (.bipush (-9)) 51 := im_D.of (by decide +kernel)
theorem D272_51 {g : im_g} : im_D g 272 51 (.goto 4) 54 := im_D.of (by decide +kernel)
theorem D272_54 {g : im_g} : im_D g 272 54 (.iconst 0) 55 := im_D.of (by decide +kernel)
theorem D272_55 {g : im_g} : im_D g 272 55 (.ireturn) 56 := im_D.of (by decide +kernel)
theorem D273_0 {g : im_g} : im_D g 273 0 (.aload_n 0) 1 := im_D.of (by decide +kernel)
theorem D273_1 {g : im_g} : im_D g 273 1 (.invokevirtual 707) 4 := im_D.of (by decide +kernel)
theorem D273_4 {g : im_g} : im_D g 273 4 (.aload_n 0) 5 := im_D.of (by decide +kernel)
theorem D273_5 {g : im_g} : im_D g 273 5 (.aload_n 0) 6 := im_D.of (by decide +kernel)
theorem D273_6 {g : im_g} : im_D g 273 6 (.getfield 632) 9 := im_D.of (by decide +kernel)
theorem D273_9 {g : im_g} : im_D g 273 9 (.putfield 629) 12 := im_D.of (by decide +kernel)
theorem D273_12 {g : im_g} : im_D g 273 12 (.aload_n 0) 13 := im_D.of (by decide +kernel)
theorem D273_13 {g : im_g} : im_D g 273 13 (.aload_n 0) 14 := im_D.of (by decide +kernel)
theorem D273_14 {g : im_g} : im_D g 273 14 (.getfield 710) 17 := im_D.of (by decide +kernel)
theorem D273_17 {g : im_g} : im_D g 273 17 (.putfield 665) 20 := im_D.of (by decide +kernel)
theorem D273_20 {g : im_g} : im_D g 273 20 (.aload_n 0) 21 := im_D.of (by decide +kernel)
theorem D273_21 {g : im_g} : im_D g 273 21 (.iconst 0) 22 := im_D.of (by decide +kernel)
theorem D273_22 {g : im_g} : im_D g 273 22 (.putfield 623) 25 := im_D.of (by decide +kernel)
theorem D273_25 {g : im_g} : im_D g 273 25 (.aload_n 0) 26 := im_D.of (by decide +kernel)
theorem D273_26 {g : im_g} : im_D g 273 26 (.iconst 1) 27 := im_D.of (by decide +kernel)
theorem D273_27 {g : im_g} : im_D g 273 27 (.iconst (-1)) 28 := im_D.of (by decide +kernel)
theorem D273_28 {g : im_g} : im_D g 273 28 (.iconst 0) 29 := im_D.of (by decide +kernel)
theorem D273_29 {g : im_g} : im_D g 273 29 (.iconst 0) 30 := im_D.of (by decide +kernel)
theorem D273_30 {g : im_g} : im_D g 273 30 (.invokevirtual 652) 33 := im_D.of (by decide +kernel)
theorem D273_33 {g : im_g} : im_D g 273 33 (.aload_n 0) 34 := im_D.of (by decide +kernel)
theorem D273_34 {g : im_g} : im_D g 273 34 (.getfield 623) 37 := im_D.of (by decide +kernel)
theorem D273_37 {g : im_g} : im_D g 273 37 (.ifCond .le 17) 40 := im_D.of (by decide +kernel)
theorem D273_40 {g : im_g} : im_D g 273 40 (.aload_n 0) 41 := im_D.of (by decide +kernel)
theorem D273_41 {g : im_g} : im_D g 273 41 (.getfield 403) 44 := im_D.of (by decide +kernel)
theorem D273_44 {g : im_g} : im_D g 273 44 (.ifCond .ne 10) 47 := im_D.of (by decide +kernel)
theorem D273_47 {g : im_g} : im_D g 273 47 (.aload_n 0) 48 := im_D.of (by decide +kernel)
theorem D273_48 {g : im_g} : im_D g 273 48 (.invokevirtual 713) 51 := im_D.of (by decide +kernel)
theorem D273_51 {g : im_g} : im_D g 273 51 (.goto (-18)) 54 := im_D.of (by decide +kernel)
theorem D273_54 {g : im_g} : im_D g 273 54 (.aload_n 0) 55 := im_D.of (by decide +kernel)
theorem D273_55 {g : im_g} : im_D g 273 55 (.getfield 403) 58 := im_D.of (by decide +kernel)
theorem D273_58 {g : im_g} : im_D g 273 58 (.ifCond .ne 7) 61 := im_D.of (by decide +kernel)
theorem D273_61 {g : im_g} : im_D g 273 61 (.aload_n 0) 62 := im_D.of (by decide +kernel)
theorem D273_62 {g : im_g} : im_D g 273 62 (.invokevirtual 716) 65 := im_D.of (by decide +kernel)
theorem D273_65 {g : im_g} : im_D g 273 65 (.return_) 66 := im_D.of (by decide +kernel)
theorem D274_0 {g : im_g} : im_D g 274 0 (.aload_n 0) 1 := im_D.of (by decide +kernel)
theorem D274_1 {g : im_g} : im_D g 274 1 (.iconst 0) 2 := im_D.of (by decide +kernel)
theorem D274_2 {g : im_g} : im_D g 274 2 (.putfield 601) 5 := im_D.of (by decide +kernel)
theorem D274_5 {g : im_g} : im_D g 274 5 (.aload_n 0) 6 := im_D.of (by decide +kernel)
theorem D274_6 {g : im_g} : im_D g 274 6 (.iconst 0) 7 := im_D.of (by decide +kernel)
theorem D274_7 {g : im_g} : im_D g 274 7 (.putfield 403) 10 := im_D.of (by decide +kernel)
theorem D274_10 {g : im_g} : im_D g 274 10 (.aload_n 0) 11 := im_D.of (by decide +kernel)
theorem D274_11 {g : im_g} : im_D g 274 11 (.iconst (-1)) 12 := im_D.of (by decide +kernel)
theorem D274_12 {g : im_g} : im_D g 274 12 (.putfield 406) 15 := im_D.of (by decide +kernel)
theorem D274_15 {g : im_g} : im_D g 274 15 (.aload_n 0) 16 := im_D.of (by decide +kernel)
theorem D274_16 {g : im_g} : im_D g 274 16 (.aload_n 0) 17 := im_D.of (by decide +kernel)
theorem D274_17 {g : im_g} : im_D g 274 17 (.getfield 617) 20 := im_D.of (by decide +kernel)
theorem D274_20 {g : im_g} : im_D g 274 20 (.putfield 449) 23 := im_D.of (by decide +kernel)
theorem D274_23 {g : im_g} : im_D g 274 23 (.return_) 24 := im_D.of (by decide +kernel)
theorem D275_0 {g : im_g} : im_D g 275 0 (.aload_n 0) 1 := im_D.of (by decide +kernel)
theorem D275_1 {g : im_g} : im_D g 275 1 (.getfield 79) 4 := im_D.of (by decide +kernel)
theorem D275_4 {g : im_g} : im_D g 275 4 (.aload_n 0) 5 := im_D.of (by decide +kernel)
theorem D275_5 {g : im_g} : im_D g 275 5 (.getfield 623) 8 := im_D.of (by decide +kernel)
theorem D275_8 {g : im_g} : im_D g 275 8 (.iload_n 1) 9 := im_D.of (by decide +kernel)
theorem D275_9 {g : im_g} : im_D g 275 9 (.iastore) 10 := im_D.of (by decide +kernel)
theorem D275_10 {g : im_g} : im_D g 275 10 (.aload_n 0) 11 := im_D.of (by decide +kernel)
theorem D275_11 {g : im_g} : im_D g 275 11 (.getfield 82) 14 := im_D.of (by decide +kernel)
theorem D275_14 {g : im_g} : im_D g 275 14 (.aload_n 0) 15 := im_D.of (by decide +kernel)
theorem D275_15 {g : im_g} : im_D g 275 15 (.getfield 623) 18 := im_D.of (by decide +kernel)
theorem D275_18 {g : im_g} : im_D g 275 18 (.iload_n 2) 19 := im_D.of (by decide +kernel)
theorem D275_19 {g : im_g} : im_D g 275 19 (.iastore) 20 := im_D.of (by decide +kernel)
theorem D275_20 {g : im_g} : im_D g 275 20 (.aload_n 0) 21 := im_D.of (by decide +kernel)
theorem D275_21 {g : im_g} : im_D g 275 21 (.getfield 85) 24 := im_D.of (by decide +kernel)
theorem D275_24 {g : im_g} : im_D g 275 24 (.aload_n 0) 25 := im_D.of (by decide +kernel)
theorem D275_25 {g : im_g} : im_D g 275 25 (.getfield 623) 28 := im_D.of (by decide +kernel)
theorem D275_28 {g : im_g} : im_D g 275 28 (.iload_n 3) 29 := im_D.of (by decide +kernel)
theorem D275_29 {g : im_g} : im_D g 275 29 (.iastore) 30 := im_D.of (by decide +kernel)
theorem D275_30 {g : im_g} : im_D g 275 30 (.aload_n 0) 31 := im_D.of (by decide +kernel)
theorem D275_31 {g : im_g} : im_D g 275 31 (.getfield 88) 34 := im_D.of (by decide +kernel)
theorem D275_34 {g : im_g} : im_D g 275 34 (.aload_n 0) 35 := im_D.of (by decide +kernel)
theorem D275_35 {g : im_g} : im_D g 275 35 (.getfield 623) 38 := im_D.of (by decide +kernel)
theorem D275_38 {g : im_g} : im_D g 275 38 (.iload 4) 40 := im_D.of (by decide +kernel)
theorem D275_40 {g : im_g} : im_D g 275 40 (.iastore) 41 := im_D.of (by decide +kernel)
theorem D275_41 {g : im_g} : im_D g 275 41 (.aload_n 0) 42 := im_D.of (by decide +kernel)
theorem D275_42 {g : im_g} : im_D g 275 42 (.dup) 43 := im_D.of (by decide +kernel)
theorem D275_43 {g : im_g} : im_D g 275 43 (.getfield 623) 46 := im_D.of (by decide +kernel)
theorem D275_46 {g : im_g} : im_D g 275 46 (.iconst 1) 47 := im_D.of (by decide +kernel)
theorem D275_47 {g : im_g} : im_D g 275 47 (.iadd) 48 := im_D.of (by decide +kernel)
theorem D275_48 {g : im_g} : im_D g 275 48 (.putfield 623) 51 := im_D.of (by decide +kernel)
theorem D275_51 {g : im_g} : im_D g 275 51 (.return_) 52 := im_D.of (by decide +kernel)
theorem D276_0 {g : im_g} : im_D g 276 0 (.aload_n 0) 1 := im_D.of (by decide +kernel)
theorem D276_1 {g : im_g} : im_D g 276 1 (.dup) 2 := im_D.of (by decide +kernel)
theorem D276_2 {g : im_g} : im_D g 276 2 (.getfield 623) 5 := im_D.of (by decide +kernel)
theorem D276_5 {g : im_g} : im_D g 276 5 (.iconst 1) 6 := im_D.of (by decide +kernel)
theorem D276_6 {g : im_g} : im_D g 276 6 (.isub) 7 := im_D.of (by decide +kernel)
theorem D276_7 {g : im_g} : im_D g 276 7 (.putfield 623) 10 := im_D.of (by decide +kernel)
theorem D276_10 {g : im_g} : im_D g 276 10 (.aload_n 0) 11 := im_D.of (by decide +kernel)
theorem D276_11 {g : im_g} : im_D g 276 11 (.getfield 79) 14 := im_D.of (by decide +kernel)
theorem D276_14 {g : im_g} : im_D g 276 14 (.aload_n 0) 15 := im_D.of (by decide +kernel)
theorem D276_15 {g : im_g} : im_D g 276 15 (.getfield 623) 18 := im_D.of (by decide +kernel)
theorem D276_18 {g : im_g} : im_D g 276 18 (.iaload) 19 := im_D.of (by decide +kernel)
theorem D276_19 {g : im_g} : im_D g 276 19 (.istore_n 1) 20 := im_D.of (by decide +kernel)
theorem D276_20 {g : im_g} : im_D g 276 20 (.aload_n 0) 21 := im_D.of (by decide +kernel)
theorem D276_21 {g : im_g} : im_D g 276 21 (.getfield 82) 24 := im_D.of (by decide +kernel)
theorem D276_24 {g : im_g} : im_D g 276 24 (.aload_n 0) 25 := im_D.of (by decide +kernel)
theorem D276_25 {g : im_g} : im_D g 276 25 (.getfield 623) 28 := im_D.of (by decide +kernel)
theorem D276_28 {g : im_g} : im_D g 276 28 (.iaload) 29 := im_D.of (by decide +kernel)
theorem D276_29 {g : im_g} : im_D g 276 29 (.istore_n 2) 30 := im_D.of (by decide +kernel)
theorem D276_30 {g : im_g} : im_D g 276 30 (.aload_n 0) 31 := im_D.of (by decide +kernel)
theorem D276_31 {g : im_g} : im_D g 276 31 (.getfield 85) 34 := im_D.of (by decide +kernel)
theorem D276_34 {g : im_g} : im_D g 276 34 (.aload_n 0) 35 := im_D.of (by decide +kernel)
theorem D276_35 {g : im_g} : im_D g 276 35 (.getfield 623) 38 := im_D.of (by decide +kernel)
theorem D276_38 {g : im_g} : im_D g 276 38 (.iaload) 39 := im_D.of (by decide +kernel)
theorem D276_39 {g : im_g} : im_D g 276 39 (.istore_n 3) 40 := im_D.of (by decide +kernel)
theorem D276_40 {g : im_g} : im_D g 276 40 (.aload_n 0) 41 := im_D.of (by decide +kernel)
theorem D276_41 {g : im_g} : im_D g 276 41 (.getfield 88) 44 := im_D.of (by decide +kernel)
theorem D276_44 {g : im_g} : im_D g 276 44 (.aload_n 0) 45 := im_D.of (by decide +kernel)
theorem D276_45 {g : im_g} : im_D g 276 45 (.getfield 623) 48 := im_D.of (by decide +kernel)
theorem D276_48 {g : im_g} : im_D g 276 48 (.iaload) 49 := im_D.of (by decide +kernel)
theorem D276_49 {g : im_g} : im_D g 276 49 (.istore 4) 51 := im_D.of (by decide +kernel)
theorem D276_51 {g : im_g} : im_D g 276 51 (.aload_n 0) 52 := im_D.of (by decide +kernel)
theorem D276_52 {g : im_g} : im_D g 276 52 (.invokevirtual 620) 55 := im_D.of (by decide +kernel)
theorem D276_55 {g : im_g} : im_D g 276 55 (.iload_n 1) 56 := im_D.of (by decide +kernel)
theorem D276_56 {g : im_g} : im_D g 276 56 (.iconst 3) 57 := im_D.of (by decide +kernel)
theorem D276_57 {g : im_g} : im_D g 276 57 (.if_icmp .gt 33) 60 := im_D.of (by decide +kernel)
theorem D276_60 {g : im_g} : im_D g 276 60 (.aload_n 0) 61 := im_D.of (by decide +kernel)
theorem D276_61 {g : im_g} : im_D g 276 61 (.getfield 591) 64 := im_D.of (by decide +kernel)
theorem D276_64 {g : im_g} : im_D g 276 64 (.iconst 5) 65 := im_D.of (by decide +kernel)
theorem D276_65 {g : im_g} : im_D g 276 65 (.if_icmp .ne 25) 68 := im_D.of (by decide +kernel)
theorem D276_68 {g : im_g} : im_D g 276 68 (.aload_n 0) 69 := im_D.of (by decide +kernel)
theorem D276_69 {g : im_g} : im_D g 276 69 (.invokevirtual 649) 72 := im_D.of (by decide +kernel)
theorem D276_72 {g : im_g} : im_D g 276 72 (.aload_n 0) 73 := im_D.of (by decide +kernel)
theorem D276_73 {g : im_g} : im_D g 276 73 (.iconst 5) 74 := im_D.of (by decide +kernel)
theorem D276_74 {g : im_g} : im_D g 276 74 (.iconst (-1)) 75 := im_D.of (by decide +kernel)
theorem D276_75 {g : im_g} : im_D g 276 75 (.iconst 0) 76 := im_D.of (by decide +kernel)
theorem D276_76 {g : im_g} : im_D g 276 76 (.iconst 0) 77 := im_D.of (by decide +kernel)
theorem D276_77 {g : im_g} : im_D g 276 77 (.invokevirtual 652) 80 := im_D.of (by decide +kernel)
theorem D276_80 {g : im_g} : im_D g 276 80 (.aload_n 0) 81 := im_D.of (by decide +kernel)
theorem D276_81 {g : im_g} : im_D g 276 81 (.iload_n 1) 82 := im_D.of (by decide +kernel)
theorem D276_82 {g : im_g} : im_D g 276 82 (.iload_n 2) 83 := im_D.of (by decide +kernel)
theorem D276_83 {g : im_g} : im_D g 276 83 (.iload_n 3) 84 := im_D.of (by decide +kernel)
theorem D276_84 {g : im_g} : im_D g 276 84 (.iload 4) 86 := im_D.of (by decide +kernel)
theorem D276_86 {g : im_g} : im_D g 276 86 (.invokevirtual 652) 89 := im_D.of (by decide +kernel)
theorem D276_89 {g : im_g} : im_D g 276 89 (.return_) 90 := im_D.of (by decide +kernel)
theorem D276_90 {g : im_g} : im_D g 276 90 (.iload_n 1) 91 := im_D.of (by decide +kernel)
theorem D276_91 {g : im_g} : im_D g 276 91 (.tableswitch 154 1 13 #[65, 76, 87, 98, 154, 154, 154, 107, 118, 126, 154, 136, 145]) 92 := im_D.of (by decide +kernel)
theorem D276_156 {g : im_g} : im_D g 276 156 (.aload_n 0) 157 := im_D.of (by decide +kernel)
theorem D276_157 {g : im_g} : im_D g 276 157 (.iload_n 2) 158 := im_D.of (by decide +kernel)
theorem D276_158 {g : im_g} : im_D g 276 158 (.iload_n 3) 159 := im_D.of (by decide +kernel)
theorem D276_159 {g : im_g} : im_D g 276 159 (.iload 4) 161 := im_D.of (by decide +kernel)
theorem D276_161 {g : im_g} : im_D g 276 161 (.invokevirtual 677) 164 := im_D.of (by decide +kernel)
theorem D276_164 {g : im_g} : im_D g 276 164 (.goto 87) 167 := im_D.of (by decide +kernel)
theorem D276_167 {g : im_g} : im_D g 276 167 (.aload_n 0) 168 := im_D.of (by decide +kernel)
theorem D276_168 {g : im_g} : im_D g 276 168 (.iload_n 2) 169 := im_D.of (by decide +kernel)
theorem D276_169 {g : im_g} : im_D g 276 169 (.iload_n 3) 170 := im_D.of (by decide +kernel)
theorem D276_170 {g : im_g} : im_D g 276 170 (.iload 4) 172 := im_D.of (by decide +kernel)
theorem D276_172 {g : im_g} : im_D g 276 172 (.invokevirtual 680) 175 := im_D.of (by decide +kernel)
theorem D276_175 {g : im_g} : im_D g 276 175 (.goto 76) 178 := im_D.of (by decide +kernel)
theorem D276_178 {g : im_g} : im_D g 276 178 (.aload_n 0) 179 := im_D.of (by decide +kernel)
theorem D276_179 {g : im_g} : im_D g 276 179 (.iload_n 2) 180 := im_D.of (by decide +kernel)
theorem D276_180 {g : im_g} : im_D g 276 180 (.iload_n 3) 181 := im_D.of (by decide +kernel)
theorem D276_181 {g : im_g} : im_D g 276 181 (.iload 4) 183 := im_D.of (by decide +kernel)
theorem D276_183 {g : im_g} : im_D g 276 183 (.invokevirtual 683) 186 := im_D.of (by decide +kernel)
theorem D276_186 {g : im_g} : im_D g 276 186 (.goto 65) 189 := im_D.of (by decide +kernel)
theorem D276_189 {g : im_g} : im_D g 276 189 (.aload_n 0) 190 := im_D.of (by decide +kernel)
theorem D276_190 {g : im_g} : im_D g 276 190 (.iload_n 2) 191 := im_D.of (by decide +kernel)
theorem D276_191 {g : im_g} : im_D g 276 191 (.iload_n 3) 192 := im_D.of (by decide +kernel)
theorem D276_192 {g : im_g} : im_D g 276 192 (.invokevirtual 686) 195 := im_D.of (by decide +kernel)
theorem D276_195 {g : im_g} : im_D g 276 195 (.goto 56) 198 := im_D.of (by decide +kernel)
theorem D276_198 {g : im_g} : im_D g 276 198 (.aload_n 0) 199 := im_D.of (by decide +kernel)
theorem D276_199 {g : im_g} : im_D g 276 199 (.iload_n 2) 200 := im_D.of (by decide +kernel)
theorem D276_200 {g : im_g} : im_D g 276 200 (.iload_n 3) 201 := im_D.of (by decide +kernel)
theorem D276_201 {g : im_g} : im_D g 276 201 (.iload 4) 203 := im_D.of (by decide +kernel)
theorem D276_203 {g : im_g} : im_D g 276 203 (.invokevirtual 689) 206 := im_D.of (by decide +kernel)
theorem D276_206 {g : im_g} : im_D g 276 206 (.goto 45) 209 := im_D.of (by decide +kernel)
theorem D276_209 {g : im_g} : im_D g 276 209 (.aload_n 0) 210 := im_D.of (by decide +kernel)
theorem D276_210 {g : im_g} : im_D g 276 210 (.iload_n 2) 211 := im_D.of (by decide +kernel)
theorem D276_211 {g : im_g} : im_D g 276 211 (.invokevirtual 692) 214 := im_D.of (by decide +kernel)
theorem D276_214 {g : im_g} : im_D g 276 214 (.goto 37) 217 := im_D.of (by decide +kernel)
theorem D276_217 {g : im_g} : im_D g 276 217 (.aload_n 0) 218 := im_D.of (by decide +kernel)
theorem D276_218 {g : im_g} : im_D g 276 218 (.iload_n 2) 219 := im_D.of (by decide +kernel)
theorem D276_219 {g : im_g} : im_D g 276 219 (.iload 4) 221 := im_D.of (by decide +kernel)
theorem D276_221 {g : im_g} : im_D g 276 221 (.invokevirtual 695) 224 := im_D.of (by decide +kernel)
theorem D276_224 {g : im_g} : im_D g 276 224 (.goto 27) 227 := im_D.of (by decide +kernel)
theorem D276_227 {g : im_g} : im_D g 276 227 (.aload_n 0) 228 := im_D.of (by decide +kernel)
theorem D276_228 {g : im_g} : im_D g 276 228 (.iload_n 2) 229 := im_D.of (by decide +kernel)
theorem D276_229 {g : im_g} : im_D g 276 229 (.iload_n 3) 230 := im_D.of (by decide +kernel)
theorem D276_230 {g : im_g} : im_D g 276 230 (.invokevirtual 698) 233 := im_D.of (by decide +kernel)
theorem D276_233 {g : im_g} : im_D g 276 233 (.goto 18) 236 := im_D.of (by decide +kernel)
theorem D276_236 {g : im_g} : im_D g 276 236 (.aload_n 0) 237 := im_D.of (by decide +kernel)
theorem D276_237 {g : im_g} : im_D g 276 237 (.iload_n 2) 238 := im_D.of (by decide +kernel)
theorem D276_238 {g : im_g} : im_D g 276 238 (.iload_n 3) 239 := im_D.of (by decide +kernel)
theorem D276_239 {g : im_g} : im_D g 276 239 (.invokevirtual 701) 242 := im_D.of (by decide +kernel)
theorem D276_242 {g : im_g} : im_D g 276 242 (.goto 9) 245 := im_D.of (by decide +kernel)
theorem D276_245 {g : im_g} : im_D g 276 245 (.aload_n 0) 246 := im_D.of (by decide +kernel)
theorem D276_246 {g : im_g} : im_D g 276 246 (.iload_n 1) 247 := im_D.of (by decide +kernel)
theorem D276_247 {g : im_g} : im_D g 276 247 (.iload_n 2) 248 := im_D.of (by decide +kernel)
theorem D276_248 {g : im_g} : im_D g 276 248 (.invokevirtual 704) 251 := im_D.of (by decide +kernel)
theorem D276_251 {g : im_g} : im_D g 276 251 (.return_) 252 := im_D.of (by decide +kernel)
theorem D277_0 {g : im_g} : im_D g 277 0 (.aload_n 0) 1 := im_D.of (by decide +kernel)
theorem D277_1 {g : im_g} : im_D g 277 1 (.getfield 601) 4 := im_D.of (by decide +kernel)
theorem D277_4 {g : im_g} : im_D g 277 4 (.aload_n 0) 5 := im_D.of (by decide +kernel)
theorem D277_5 {g : im_g} : im_D g 277 5 (.getfield 604) 8 := im_D.of (by decide +kernel)
theorem D277_8 {g : im_g} : im_D g 277 8 (.if_icmp .ge 30) 11 := im_D.of (by decide +kernel)
theorem D277_11 {g : im_g} : im_D g 277 11 (.aload_n 0) 12 := im_D.of (by decide +kernel)
theorem D277_12 {g : im_g} : im_D g 277 12 (.getfield 30) 15 := im_D.of (by decide +kernel)
theorem D277_15 {g : im_g} : im_D g 277 15 (.aload_n 0) 16 := im_D.of (by decide +kernel)
theorem D277_16 {g : im_g} : im_D g 277 16 (.getfield 601) 19 := im_D.of (by decide +kernel)
theorem D277_19 {g : im_g} : im_D g 277 19 (.iaload) 20 := im_D.of (by decide +kernel)
theorem D277_20 {g : im_g} : im_D g 277 20 (.bipush 32) 22 := im_D.of (by decide +kernel)
theorem D277_22 {g : im_g} : im_D g 277 22 (.if_icmp .gt 16) 25 := im_D.of (by decide +kernel)
theorem D277_25 {g : im_g} : im_D g 277 25 (.aload_n 0) 26 := im_D.of (by decide +kernel)
theorem D277_26 {g : im_g} : im_D g 277 26 (.dup) 27 := im_D.of (by decide +kernel)
theorem D277_27 {g : im_g} : im_D g 277 27 (.getfield 601) 30 := im_D.of (by decide +kernel)
theorem D277_30 {g : im_g} : im_D g 277 30 (.iconst 1) 31 := im_D.of (by decide +kernel)
theorem D277_31 {g : im_g} : im_D g 277 31 (.iadd) 32 := im_D.of (by decide +kernel)
theorem D277_32 {g : im_g} : im_D g 277 32 (.putfield 601) 35 := im_D.of (by decide +kernel)
theorem D277_35 {g : im_g} : im_D g 277 35 (.goto (-35)) 38 := im_D.of (by decide +kernel)
theorem D277_38 {g : im_g} : im_D g 277 38 (.aload_n 0) 39 := im_D.of (by decide +kernel)
theorem D277_39 {g : im_g} : im_D g 277 39 (.aload_n 0) 40 := im_D.of (by decide +kernel)
theorem D277_40 {g : im_g} : im_D g 277 40 (.getfield 601) 43 := im_D.of (by decide +kernel)
theorem D277_43 {g : im_g} : im_D g 277 43 (.putfield 585) 46 := im_D.of (by decide +kernel)
theorem D277_46 {g : im_g} : im_D g 277 46 (.aload_n 0) 47 := im_D.of (by decide +kernel)
theorem D277_47 {g : im_g} : im_D g 277 47 (.aload_n 0) 48 := im_D.of (by decide +kernel)
theorem D277_48 {g : im_g} : im_D g 277 48 (.getfield 601) 51 := im_D.of (by decide +kernel)
theorem D277_51 {g : im_g} : im_D g 277 51 (.putfield 588) 54 := im_D.of (by decide +kernel)
theorem D277_54 {g : im_g} : im_D g 277 54 (.aload_n 0) 55 := im_D.of (by decide +kernel)
theorem D277_55 {g : im_g} : im_D g 277 55 (.lconst 0) 56 := im_D.of (by decide +kernel)
theorem D277_56 {g : im_g} : im_D g 277 56 (.putfield 597) 59 := im_D.of (by decide +kernel)
theorem D277_59 {g : im_g} : im_D g 277 59 (.aload_n 0) 60 := im_D.of (by decide +kernel)
theorem D277_60 {g : im_g} : im_D g 277 60 (.getfield 601) 63 := im_D.of (by decide +kernel)
theorem D277_63 {g : im_g} : im_D g 277 63 (.aload_n 0) 64 := im_D.of (by decide +kernel)
theorem D277_64 {g : im_g} : im_D g 277 64 (.getfield 604) 67 := im_D.of (by decide +kernel)
theorem D277_67 {g : im_g} : im_D g 277 67 (.if_icmp .ne 9) 70 := im_D.of (by decide +kernel)
theorem D277_70 {g : im_g} : im_D g 277 70 (.aload_n 0) 71 := im_D.of (by decide +kernel)
theorem D277_71 {g : im_g} : im_D g 277 71 (.iconst 0) 72 := im_D.of (by decide +kernel)
theorem D277_72 {g : im_g} : im_D g 277 72 (.putfield 591) 75 := im_D.of (by decide +kernel)
theorem D277_75 {g : im_g} : im_D g 277 75 (.return_) 76 := im_D.of (by decide +kernel)
theorem D277_76 {g : im_g} : im_D g 277 76 (.aload_n 0) 77 := im_D.of (by decide +kernel)
theorem D277_77 {g : im_g} : im_D g 277 77 (.getfield 30) 80 := im_D.of (by decide +kernel)
theorem D277_80 {g : im_g} : im_D g 277 80 (.aload_n 0) 81 := im_D.of (by decide +kernel)
theorem D277_81 {g : im_g} : im_D g 277 81 (.getfield 601) 84 := im_D.of (by decide +kernel)
theorem D277_84 {g : im_g} : im_D g 277 84 (.iaload) 85 := im_D.of (by decide +kernel)
theorem D277_85 {g : im_g} : im_D g 277 85 (.istore_n 1) 86 := im_D.of (by decide +kernel)
theorem D277_86 {g : im_g} : im_D g 277 86 (.iload_n 1) 87 := im_D.of (by decide +kernel)
theorem D277_87 {g : im_g} : im_D g 277 87 (.invokestatic 607) 90 := im_D.of (by decide +kernel)
theorem D277_90 {g : im_g} : im_D g 277 90 (.ifCond .eq 52) 93 := im_D.of (by decide +kernel)
theorem D277_93 {g : im_g} : im_D g 277 93 (.aload_n 0) 94 := im_D.of (by decide +kernel)
theorem D277_94 {g : im_g} : im_D g 277 94 (.aload_n 0) 95 := im_D.of (by decide +kernel)
theorem D277_95 {g : im_g} : im_D g 277 95 (.getfield 601) 98 := im_D.of (by decide +kernel)
theorem D277_98 {g : im_g} : im_D g 277 98 (.iconst 1) 99 := im_D.of (by decide +kernel)
theorem D277_99 {g : im_g} : im_D g 277 99 (.iadd) 100 := im_D.of (by decide +kernel)
theorem D277_100 {g : im_g} : im_D g 277 100 (.putfield 588) 103 := im_D.of (by decide +kernel)
theorem D277_103 {g : im_g} : im_D g 277 103 (.aload_n 0) 104 := im_D.of (by decide +kernel)
theorem D277_104 {g : im_g} : im_D g 277 104 (.iload_n 1) 105 := im_D.of (by decide +kernel)
theorem D277_105 {g : im_g} : im_D g 277 105 (.bipush 40) 107 := im_D.of (by decide +kernel)
theorem D277_107 {g : im_g} : im_D g 277 107 (.if_icmp .ne 7) 110 := im_D.of (by decide +kernel)
theorem D277_110 {g : im_g} : im_D g 277 110 (.iconst 5) 111 := im_D.of (by decide +kernel)
theorem D277_111 {g : im_g} : im_D g 277 111 (.goto 27) 114 := im_D.of (by decide +kernel)
theorem D277_114 {g : im_g} : im_D g 277 114 (.iload_n 1) 115 := im_D.of (by decide +kernel)
theorem D277_115 {g : im_g} : im_D g 277 115 (.bipush 41) 117 := im_D.of (by decide +kernel)
theorem D277_117 {g : im_g} : im_D g 277 117 (.if_icmp .ne 8) 120 := im_D.of (by decide +kernel)
theorem D277_120 {g : im_g} : im_D g 277 120 (.bipush 6) 122 := im_D.of (by decide +kernel)
theorem D277_122 {g : im_g} : im_D g 277 122 (.goto 16) 125 := im_D.of (by decide +kernel)
theorem D277_125 {g : im_g} : im_D g 277 125 (.iload_n 1) 126 := im_D.of (by decide +kernel)
theorem D277_126 {g : im_g} : im_D g 277 126 (.bipush 91) 128 := im_D.of (by decide +kernel)
theorem D277_128 {g : im_g} : im_D g 277 128 (.if_icmp .ne 8) 131 := im_D.of (by decide +kernel)
theorem D277_131 {g : im_g} : im_D g 277 131 (.bipush 7) 133 := im_D.of (by decide +kernel)
theorem D277_133 {g : im_g} : im_D g 277 133 (.goto 5) 136 := im_D.of (by decide +kernel)
theorem D277_136 {g : im_g} : im_D g 277 136 (.bipush 8) 138 := im_D.of (by decide +kernel)
theorem D277_138 {g : im_g} : im_D g 277 138 (.putfield 591) 141 := im_D.of (by decide +kernel)
theorem D277_141 {g : im_g} : im_D g 277 141 (.return_) 142 := im_D.of (by decide +kernel)
theorem D277_142 {g : im_g} : im_D g 277 142 (.aload_n 0) 143 := im_D.of (by decide +kernel)
theorem D277_143 {g : im_g} : im_D g 277 143 (.getfield 588) 146 := im_D.of (by decide +kernel)
theorem D277_146 {g : im_g} : im_D g 277 146 (.aload_n 0) 147 := im_D.of (by decide +kernel)
theorem D277_147 {g : im_g} : im_D g 277 147 (.getfield 604) 150 := im_D.of (by decide +kernel)
theorem D277_150 {g : im_g} : im_D g 277 150 (.if_icmp .ge 45) 153 := im_D.of (by decide +kernel)
theorem D277_153 {g : im_g} : im_D g 277 153 (.aload_n 0) 154 := im_D.of (by decide +kernel)
theorem D277_154 {g : im_g} : im_D g 277 154 (.getfield 30) 157 := im_D.of (by decide +kernel)
theorem D277_157 {g : im_g} : im_D g 277 157 (.aload_n 0) 158 := im_D.of (by decide +kernel)
theorem D277_158 {g : im_g} : im_D g 277 158 (.getfield 588) 161 := im_D.of (by decide +kernel)
theorem D277_161 {g : im_g} : im_D g 277 161 (.iaload) 162 := im_D.of (by decide +kernel)
theorem D277_162 {g : im_g} : im_D g 277 162 (.bipush 32) 164 := im_D.of (by decide +kernel)
theorem D277_164 {g : im_g} : im_D g 277 164 (.if_icmp .le 31) 167 := im_D.of (by decide +kernel)
theorem D277_167 {g : im_g} : im_D g 277 167 (.aload_n 0) 168 := im_D.of (by decide +kernel)
theorem D277_168 {g : im_g} : im_D g 277 168 (.getfield 30) 171 := im_D.of (by decide +kernel)
theorem D277_171 {g : im_g} : im_D g 277 171 (.aload_n 0) 172 := im_D.of (by decide +kernel)
theorem D277_172 {g : im_g} : im_D g 277 172 (.getfield 588) 175 := im_D.of (by decide +kernel)
theorem D277_175 {g : im_g} : im_D g 277 175 (.iaload) 176 := im_D.of (by decide +kernel)
theorem D277_176 {g : im_g} : im_D g 277 176 (.invokestatic 607) 179 := im_D.of (by decide +kernel)
theorem D277_179 {g : im_g} : im_D g 277 179 (.ifCond .ne 16) 182 := im_D.of (by decide +kernel)
theorem D277_182 {g : im_g} : im_D g 277 182 (.aload_n 0) 183 := im_D.of (by decide +kernel)
theorem D277_183 {g : im_g} : im_D g 277 183 (.dup) 184 := im_D.of (by decide +kernel)
theorem D277_184 {g : im_g} : im_D g 277 184 (.getfield 588) 187 := im_D.of (by decide +kernel)
theorem D277_187 {g : im_g} : im_D g 277 187 (.iconst 1) 188 := im_D.of (by decide +kernel)
theorem D277_188 {g : im_g} : im_D g 277 188 (.iadd) 189 := im_D.of (by decide +kernel)
theorem D277_189 {g : im_g} : im_D g 277 189 (.putfield 588) 192 := im_D.of (by decide +kernel)
theorem D277_192 {g : im_g} : im_D g 277 192 (.goto (-50)) 195 := im_D.of (by decide +kernel)
theorem D277_195 {g : im_g} : im_D g 277 195 (.aload_n 0) 196 := im_D.of (by decide +kernel)
theorem D277_196 {g : im_g} : im_D g 277 196 (.invokevirtual 611) 199 := im_D.of (by decide +kernel)
theorem D277_199 {g : im_g} : im_D g 277 199 (.return_) 200 := im_D.of (by decide +kernel)
theorem D278_0 {g : im_g} : im_D g 278 0 (.iload_n 0) 1 := im_D.of (by decide +kernel)
theorem D278_1 {g : im_g} : im_D g 278 1 (.bipush 40) 3 := im_D.of (by decide +kernel)
theorem D278_3 {g : im_g} : im_D g 278 3 (.if_icmp .eq 21) 6 := im_D.of (by decide +kernel)
theorem D278_6 {g : im_g} : im_D g 278 6 (.iload_n 0) 7 := im_D.of (by decide +kernel)
theorem D278_7 {g : im_g} : im_D g 278 7 (.bipush 41) 9 := im_D.of (by decide +kernel)
theorem D278_9 {g : im_g} : im_D g 278 9 (.if_icmp .eq 15) 12 := im_D.of (by decide +kernel)
theorem D278_12 {g : im_g} : im_D g 278 12 (.iload_n 0) 13 := im_D.of (by decide +kernel)
theorem D278_13 {g : im_g} : im_D g 278 13 (.bipush 91) 15 := im_D.of (by decide +kernel)
theorem D278_15 {g : im_g} : im_D g 278 15 (.if_icmp .eq 9) 18 := im_D.of (by decide +kernel)
theorem D278_18 {g : im_g} : im_D g 278 18 (.iload_n 0) 19 := im_D.of (by decide +kernel)
theorem D278_19 {g : im_g} : im_D g 278 19 (.bipush 93) 21 := im_D.of (by decide +kernel)
theorem D278_21 {g : im_g} : im_D g 278 21 (.if_icmp .ne 7) 24 := im_D.of (by decide +kernel)
theorem D278_24 {g : im_g} : im_D g 278 24 (.iconst 1) 25 := im_D.of (by decide +kernel)
theorem D278_25 {g : im_g} : im_D g 278 25 (.goto 4) 28 := im_D.of (by decide +kernel)
theorem D278_28 {g : im_g} : im_D g 278 28 (.iconst 0) 29 := im_D.of (by decide +kernel)
theorem D278_29 {g : im_g} : im_D g 278 29 (.ireturn) 30 := im_D.of (by decide +kernel)
set_option maxRecDepth 20000 in
set_option maxHeartbeats 4000000 in
theorem b_thrown_0 {g : im_g} {d : Nat} {e : im_E} {M : im_M} {K : im_K} (hP : K (.inl (some (vI (M 6952 0)))) e M) : im_T g d 262 0 [some (.ref 6952)] [] e M K := by
  refine im_ld (q := 1) (i := 0) D262_0 rfl rfl rfl ?_
  refine im_rng (j := 0) sf_6952 (by decide) (by decide) (fun hr1 => ?_)
  refine im_gfI (q := 4) D262_1 (im_fl cn_262 fl_12_409) sf_6952 rfl rfl tI_12_0 rfl ?_
  exact im_iret (q := 5) D262_4 rfl hP
set_option maxRecDepth 20000 in
set_option maxHeartbeats 4000000 in
theorem b_feed_0 {g : im_g} {d : Nat} {e : im_E} {M : im_M} {K : im_K} {p1 p2 p3 p4 p5 : Int} (hd : 1 ≤ d) (hP : (im_i32 ((M 6952 2) + 20)) ∧ ((∀ x4 : Int, (((16384 < ((M 6952 2) + 20)) ∧ x4 = 0) ∨ ((((M 6952 2) + 20) ≤ 16384) ∧ x4 = 1)) → im_T g (d - 1) 264 0 [some (.ref 6952), some (vI 1), some (vI 1), some (vI x4), some (vI 1)] [] e M (im_ri (fun x9 e_ M8 => e = e_ ∧ (im_i32 x9) ∧ ((¬ x9 = 0 → im_T g d 263 33 [some (.ref 6952), some (vI p1), some (vI p2), some (vI p3), some (vI p4), some (vI p5), some (vI 0), none] [] e M8 K) ∧ (x9 = 0 → K (.inl (some (vI 0))) e M8))))))) : im_T g d 263 0 [some (.ref 6952), some (vI p1), some (vI p2), some (vI p3), some (vI p4), some (vI p5), none, none] [] e M K := by
  refine im_ld (q := 1) (i := 0) D263_0 rfl rfl rfl ?_
  refine im_iconst (q := 2) D263_1 ?_
  refine im_iconst (q := 3) D263_2 ?_
  refine im_ld (q := 4) (i := 0) D263_3 rfl rfl rfl ?_
  refine im_rng (j := 2) sf_6952 (by decide) (by decide) (fun hr1 => ?_)
  refine im_gfI (q := 7) D263_4 (im_fl cn_263 fl_12_416) sf_6952 rfl rfl tI_12_2 rfl ?_
  refine im_bipush (q := 9) D263_7 rfl ?_
  refine im_iadd (q := 10) D263_9 ?_
  refine im_sipush (q := 13) D263_10 rfl ?_
  obtain ⟨hg2, hP⟩ := hP
  have hJ5 := hP
  have kJ6 : ∀ x4 : Int, (((16384 < ((M 6952 2) + 20)) ∧ x4 = 0) ∨ ((((M 6952 2) + 20) ≤ 16384) ∧ x4 = 1)) → im_T g d 263 21 [some (.ref 6952), some (vI p1), some (vI p2), some (vI p3), some (vI p4), some (vI p5), none, none] [vI x4, vI 1, vI 1, .ref 6952] e M K := by
    intro x4 hx7
    have hP := hJ5 x4 hx7
    refine im_iconst (q := 22) D263_21 ?_
    refine im_callV (q := 25) (kd := 1) (y := 264) (n := 4) (ci := 12) (a := 6952) (vs := [.ref 6952, vI 1, vI 1, vI x4, vI 1]) (r := []) (L2 := [some (.ref 6952), some (vI 1), some (vI 1), some (vI x4), some (vI 1)]) D263_22 (im_cal cn_263 cl_12_419) (Or.inl rfl) rfl sf_6952 rfl rfl rfl rfl hd ⟨rfl, rfl, rfl, rfl, rfl, trivial⟩ ?_
    refine hP.mono ?_
    rintro _ e12 M8 ⟨x9, rfl, rfl, hP⟩
    refine im_bkS ?_
    obtain ⟨hg10, hP⟩ := hP
    refine im_ifc (q := 28) (t := 30) D263_25 rfl hg10 (fun hc11 => ?_) (fun hc11 => ?_)
    · replace hP := hP.1 hc11
      refine im_iconst (q := 31) D263_30 ?_
      refine im_st1 (q := 33) (i := 6) (L' := [some (.ref 6952), some (vI p1), some (vI p2), some (vI p3), some (vI p4), some (vI p5), some (vI 0), none]) D263_31 (Or.inr rfl) (Nat.le_of_ble_eq_true rfl) rfl ?_
      exact hP.wk ⟨rfl, rfl, rfl, rfl, rfl, rfl, rfl, trivial⟩
    · replace hP := hP.2 (Decidable.not_not.mp hc11)
      refine im_iconst (q := 29) D263_28 ?_
      exact im_iret (q := 30) D263_29 rfl hP
  refine im_icmp (q := 16) (t := 20) D263_13 rfl hg2 (by decide) (fun hc3 => ?_) (fun hc3 => ?_)
  · refine im_iconst (q := 21) D263_20 ?_
    exact (kJ6 (0) (Or.inl ⟨hc3, rfl⟩)).wk ⟨rfl, rfl, rfl, rfl, rfl, rfl, trivial⟩
  · refine im_iconst (q := 17) D263_16 ?_
    refine im_goto (q := 20) (t := 21) D263_17 rfl ?_
    exact (kJ6 (1) (Or.inr ⟨(Int.not_lt.mp hc3), rfl⟩)).wk ⟨rfl, rfl, rfl, rfl, rfl, rfl, trivial⟩
set_option maxRecDepth 20000 in
set_option maxHeartbeats 4000000 in
theorem b_feed_33 {g : im_g} {d : Nat} {e : im_E} {M : im_M} {K : im_K} {p1 p2 p3 p4 p5 p6 : Int} (hP : (im_i32 p6) ∧ ((((20 ≤ p6 → K (.inl (some (vI (M 6952 2)))) e M))) ∧ (∀ x8 : Int, (((p6 < 20) ∧ (4 ≤ p6) ∧ (8 ≤ p6) ∧ (12 ≤ p6) ∧ (16 ≤ p6) ∧ x8 = p5) ∨ ((p6 < 20) ∧ (4 ≤ p6) ∧ (8 ≤ p6) ∧ (12 ≤ p6) ∧ (p6 < 16) ∧ x8 = p4) ∨ ((p6 < 20) ∧ (4 ≤ p6) ∧ (8 ≤ p6) ∧ (p6 < 12) ∧ x8 = p3) ∨ ((p6 < 20) ∧ (4 ≤ p6) ∧ (p6 < 8) ∧ x8 = p2) ∨ ((p6 < 20) ∧ (p6 < 4) ∧ x8 = p1)) → (0 ≤ (M 6952 2) ∧ (M 6952 2) < 16384) ∧ (im_i32 ((M 6952 2) + 1)) ∧ im_T g d 263 33 [some (.ref 6952), some (vI p1), some (vI p2), some (vI p3), some (vI p4), some (vI p5), some (vI (p6 + 1)), none] [] e (im_u (im_u M 6953 (M 6952 2) (xiand (xishr x8 (24 - (8 * (p6.tmod 4)))) 255)) 6952 2 ((M 6952 2) + 1)) K))) : im_T g d 263 33 [some (.ref 6952), some (vI p1), some (vI p2), some (vI p3), some (vI p4), some (vI p5), some (vI p6), none] [] e M K := by
  refine im_ld (q := 35) (i := 6) D263_33 rfl rfl rfl ?_
  refine im_bipush (q := 37) D263_35 rfl ?_
  obtain ⟨hg1, hP⟩ := hP
  obtain ⟨hP, hJ9⟩ := hP
  have kJ10 : ∀ x8 : Int, (((p6 < 20) ∧ (4 ≤ p6) ∧ (8 ≤ p6) ∧ (12 ≤ p6) ∧ (16 ≤ p6) ∧ x8 = p5) ∨ ((p6 < 20) ∧ (4 ≤ p6) ∧ (8 ≤ p6) ∧ (12 ≤ p6) ∧ (p6 < 16) ∧ x8 = p4) ∨ ((p6 < 20) ∧ (4 ≤ p6) ∧ (8 ≤ p6) ∧ (p6 < 12) ∧ x8 = p3) ∨ ((p6 < 20) ∧ (4 ≤ p6) ∧ (p6 < 8) ∧ x8 = p2) ∨ ((p6 < 20) ∧ (p6 < 4) ∧ x8 = p1)) → im_T g d 263 86 [some (.ref 6952), some (vI p1), some (vI p2), some (vI p3), some (vI p4), some (vI p5), some (vI p6), none] [vI x8] e M K := by
    intro x8 hx11
    have hP := hJ9 x8 hx11
    refine im_st1 (q := 88) (i := 7) (L' := [some (.ref 6952), some (vI p1), some (vI p2), some (vI p3), some (vI p4), some (vI p5), some (vI p6), some (vI x8)]) D263_86 (Or.inr rfl) (Nat.le_of_ble_eq_true rfl) rfl ?_
    refine im_ld (q := 89) (i := 0) D263_88 rfl rfl rfl ?_
    refine im_gfR (q := 92) (b := 6953) D263_89 (im_fl cn_263 fl_12_7) sf_6952 rfl rfl tR_12_1 rf_6952_1 ?_
    refine im_ld (q := 93) (i := 0) D263_92 rfl rfl rfl ?_
    refine im_rng (j := 2) sf_6952 (by decide) (by decide) (fun hr12 => ?_)
    refine im_gfI (q := 96) D263_93 (im_fl cn_263 fl_12_416) sf_6952 rfl rfl tI_12_2 rfl ?_
    refine im_ld (q := 98) (i := 7) D263_96 rfl rfl rfl ?_
    refine im_bipush (q := 100) D263_98 rfl ?_
    refine im_bipush (q := 102) D263_100 rfl ?_
    refine im_ld (q := 104) (i := 6) D263_102 rfl rfl rfl ?_
    refine im_iconst (q := 105) D263_104 ?_
    refine im_irem (q := 106) D263_105 hg1 (by decide) (by decide) ?_
    refine im_imul (q := 107) D263_106 ?_
    refine im_isub (q := 108) D263_107 ?_
    refine im_ishr (q := 109) D263_108 ?_
    refine im_sipush (q := 112) D263_109 rfl ?_
    refine im_iand (q := 113) D263_112 ?_
    obtain ⟨hg13, hP⟩ := hP
    refine im_iast (q := 114) D263_113 sf_6953 hg13.1 hg13.2 (by decide) (xiand_r _ _) ?_
    refine im_ld (q := 115) (i := 0) D263_114 rfl rfl rfl ?_
    refine im_dup (q := 116) D263_115 rfl ?_
    refine im_gfI (q := 119) D263_116 (im_fl cn_263 fl_12_416) sf_6952 rfl rfl tI_12_2 (im_rdn _ _ _ _ (by decide)) ?_
    refine im_iconst (q := 120) D263_119 ?_
    refine im_iadd (q := 121) D263_120 ?_
    obtain ⟨hg15, hP⟩ := hP
    refine im_pfI (q := 124) D263_121 (im_fl cn_263 fl_12_416) sf_6952 rfl rfl ti_12_2 hg15 ?_
    refine im_iinc (q := 127) (i := 6) (L' := [some (.ref 6952), some (vI p1), some (vI p2), some (vI p3), some (vI p4), some (vI p5), some (vI (p6 + 1)), some (vI x8)]) D263_124 rfl (Nat.le_of_ble_eq_true rfl) rfl ?_
    refine im_goto (q := 130) (t := 33) D263_127 rfl ?_
    exact hP.wk ⟨rfl, rfl, rfl, rfl, rfl, rfl, rfl, trivial⟩
  refine im_icmp (q := 40) (t := 130) D263_37 rfl hg1 (by decide) (fun hc2 => ?_) (fun hc2 => ?_)
  · replace hP := hP hc2
    refine im_ld (q := 131) (i := 0) D263_130 rfl rfl rfl ?_
    refine im_rng (j := 2) sf_6952 (by decide) (by decide) (fun hr3 => ?_)
    refine im_gfI (q := 134) D263_131 (im_fl cn_263 fl_12_416) sf_6952 rfl rfl tI_12_2 rfl ?_
    exact im_iret (q := 135) D263_134 rfl hP
  · refine im_ld (q := 42) (i := 6) D263_40 rfl rfl rfl ?_
    refine im_iconst (q := 43) D263_42 ?_
    refine im_icmp (q := 46) (t := 50) D263_43 rfl hg1 (by decide) (fun hc4 => ?_) (fun hc4 => ?_)
    · refine im_ld (q := 52) (i := 6) D263_50 rfl rfl rfl ?_
      refine im_bipush (q := 54) D263_52 rfl ?_
      refine im_icmp (q := 57) (t := 61) D263_54 rfl hg1 (by decide) (fun hc5 => ?_) (fun hc5 => ?_)
      · refine im_ld (q := 63) (i := 6) D263_61 rfl rfl rfl ?_
        refine im_bipush (q := 65) D263_63 rfl ?_
        refine im_icmp (q := 68) (t := 72) D263_65 rfl hg1 (by decide) (fun hc6 => ?_) (fun hc6 => ?_)
        · refine im_ld (q := 74) (i := 6) D263_72 rfl rfl rfl ?_
          refine im_bipush (q := 76) D263_74 rfl ?_
          refine im_icmp (q := 79) (t := 84) D263_76 rfl hg1 (by decide) (fun hc7 => ?_) (fun hc7 => ?_)
          · refine im_ld (q := 86) (i := 5) D263_84 rfl rfl rfl ?_
            exact (kJ10 (p5) (Or.inl ⟨(Int.not_le.mp hc2), hc4, hc5, hc6, hc7, rfl⟩)).wk ⟨rfl, rfl, rfl, rfl, rfl, rfl, rfl, trivial⟩
          · refine im_ld (q := 81) (i := 4) D263_79 rfl rfl rfl ?_
            refine im_goto (q := 84) (t := 86) D263_81 rfl ?_
            exact (kJ10 (p4) (Or.inr (Or.inl ⟨(Int.not_le.mp hc2), hc4, hc5, hc6, (Int.not_le.mp hc7), rfl⟩))).wk ⟨rfl, rfl, rfl, rfl, rfl, rfl, rfl, trivial⟩
        · refine im_ld (q := 69) (i := 3) D263_68 rfl rfl rfl ?_
          refine im_goto (q := 72) (t := 86) D263_69 rfl ?_
          exact (kJ10 (p3) (Or.inr (Or.inr (Or.inl ⟨(Int.not_le.mp hc2), hc4, hc5, (Int.not_le.mp hc6), rfl⟩)))).wk ⟨rfl, rfl, rfl, rfl, rfl, rfl, rfl, trivial⟩
      · refine im_ld (q := 58) (i := 2) D263_57 rfl rfl rfl ?_
        refine im_goto (q := 61) (t := 86) D263_58 rfl ?_
        exact (kJ10 (p2) (Or.inr (Or.inr (Or.inr (Or.inl ⟨(Int.not_le.mp hc2), hc4, (Int.not_le.mp hc5), rfl⟩))))).wk ⟨rfl, rfl, rfl, rfl, rfl, rfl, rfl, trivial⟩
    · refine im_ld (q := 47) (i := 1) D263_46 rfl rfl rfl ?_
      refine im_goto (q := 50) (t := 86) D263_47 rfl ?_
      exact (kJ10 (p1) (Or.inr (Or.inr (Or.inr (Or.inr ⟨(Int.not_le.mp hc2), (Int.not_le.mp hc4), rfl⟩))))).wk ⟨rfl, rfl, rfl, rfl, rfl, rfl, rfl, trivial⟩
set_option maxRecDepth 20000 in
set_option maxHeartbeats 4000000 in
theorem b_may_0 {g : im_g} {d : Nat} {e : im_E} {M : im_M} {K : im_K} {p1 p2 p3 p4 : Int} (hP : (((((M 6952 180) = 0 → (im_i32 p2) ∧ ((¬ p2 = 0 → (im_i32 p3) ∧ ((¬ p3 = 0 → (im_i32 p4)))))))) ∧ (∀ x9 : Int, ((((M 6952 180) = 0) ∧ (¬ p2 = 0) ∧ (¬ p3 = 0) ∧ (¬ p4 = 0) ∧ x9 = 0) ∨ (((M 6952 180) = 0) ∧ (¬ p2 = 0) ∧ (¬ p3 = 0) ∧ (p4 = 0) ∧ x9 = 3) ∨ (((M 6952 180) = 0) ∧ (¬ p2 = 0) ∧ (p3 = 0) ∧ x9 = 2) ∨ (((M 6952 180) = 0) ∧ (p2 = 0) ∧ x9 = 1) ∨ ((¬ (M 6952 180) = 0) ∧ x9 = p1)) → (im_i32 x9) ∧ ((∀ x16 : Int, (((¬ x9 = 0) ∧ x16 = 0) ∨ ((x9 = 0) ∧ x16 = 1)) → K (.inl (some (vI x16))) e (im_u M 6952 0 x9)))))) : im_T g d 264 0 [some (.ref 6952), some (vI p1), some (vI p2), some (vI p3), some (vI p4)] [] e M K := by
  refine im_ld (q := 1) (i := 0) D264_0 rfl rfl rfl ?_
  refine im_ld (q := 2) (i := 0) D264_1 rfl rfl rfl ?_
  refine im_rng (j := 180) sf_6952 (by decide) (by decide) (fun hr1 => ?_)
  refine im_gfI (q := 5) D264_2 (im_fl cn_264 fl_12_412) sf_6952 rfl rfl tI_12_180 rfl ?_
  obtain ⟨hP, hJ10⟩ := hP
  have kJ11 : ∀ x9 : Int, ((((M 6952 180) = 0) ∧ (¬ p2 = 0) ∧ (¬ p3 = 0) ∧ (¬ p4 = 0) ∧ x9 = 0) ∨ (((M 6952 180) = 0) ∧ (¬ p2 = 0) ∧ (¬ p3 = 0) ∧ (p4 = 0) ∧ x9 = 3) ∨ (((M 6952 180) = 0) ∧ (¬ p2 = 0) ∧ (p3 = 0) ∧ x9 = 2) ∨ (((M 6952 180) = 0) ∧ (p2 = 0) ∧ x9 = 1) ∨ ((¬ (M 6952 180) = 0) ∧ x9 = p1)) → im_T g d 264 38 [some (.ref 6952), none, none, none, none] [vI x9, .ref 6952] e M K := by
    intro x9 hx12
    have hP := hJ10 x9 hx12
    obtain ⟨hg13, hP⟩ := hP
    refine im_pfI (q := 41) D264_38 (im_fl cn_264 fl_12_409) sf_6952 rfl rfl ti_12_0 hg13 ?_
    refine im_ld (q := 42) (i := 0) D264_41 rfl rfl rfl ?_
    refine im_gfI (q := 45) D264_42 (im_fl cn_264 fl_12_409) sf_6952 rfl rfl tI_12_0 (im_rds _ _ _ _) ?_
    have hJ17 := hP
    have kJ18 : ∀ x16 : Int, (((¬ x9 = 0) ∧ x16 = 0) ∨ ((x9 = 0) ∧ x16 = 1)) → im_T g d 264 53 [none, none, none, none, none] [vI x16] e (im_u M 6952 0 x9) K := by
      intro x16 hx19
      have hP := hJ17 x16 hx19
      exact im_zret (q := 54) D264_53 rfl (by omega) hP
    refine im_ifc (q := 48) (t := 52) D264_45 rfl hg13 (fun hc15 => ?_) (fun hc15 => ?_)
    · refine im_iconst (q := 53) D264_52 ?_
      exact (kJ18 (0) (Or.inl ⟨hc15, rfl⟩)).wk trivial
    · refine im_iconst (q := 49) D264_48 ?_
      refine im_goto (q := 52) (t := 53) D264_49 rfl ?_
      exact (kJ18 (1) (Or.inr ⟨(Decidable.not_not.mp hc15), rfl⟩)).wk trivial
  refine im_ifc (q := 8) (t := 12) D264_5 rfl (im_z32 hr1) (fun hc2 => ?_) (fun hc2 => ?_)
  · replace hP := hP hc2
    refine im_ld (q := 13) (i := 2) D264_12 rfl rfl rfl ?_
    obtain ⟨hg3, hP⟩ := hP
    refine im_ifc (q := 16) (t := 20) D264_13 rfl hg3 (fun hc4 => ?_) (fun hc4 => ?_)
    · replace hP := hP hc4
      refine im_ld (q := 21) (i := 3) D264_20 rfl rfl rfl ?_
      obtain ⟨hg5, hP⟩ := hP
      refine im_ifc (q := 24) (t := 28) D264_21 rfl hg5 (fun hc6 => ?_) (fun hc6 => ?_)
      · replace hP := hP hc6
        refine im_ld (q := 30) (i := 4) D264_28 rfl rfl rfl ?_
        have hg7 := hP
        refine im_ifc (q := 33) (t := 37) D264_30 rfl hg7 (fun hc8 => ?_) (fun hc8 => ?_)
        · refine im_iconst (q := 38) D264_37 ?_
          exact (kJ11 (0) (Or.inl ⟨hc2, hc4, hc6, hc8, rfl⟩)).wk ⟨rfl, trivial⟩
        · refine im_iconst (q := 34) D264_33 ?_
          refine im_goto (q := 37) (t := 38) D264_34 rfl ?_
          exact (kJ11 (3) (Or.inr (Or.inl ⟨hc2, hc4, hc6, (Decidable.not_not.mp hc8), rfl⟩))).wk ⟨rfl, trivial⟩
      · refine im_iconst (q := 25) D264_24 ?_
        refine im_goto (q := 28) (t := 38) D264_25 rfl ?_
        exact (kJ11 (2) (Or.inr (Or.inr (Or.inl ⟨hc2, hc4, (Decidable.not_not.mp hc6), rfl⟩)))).wk ⟨rfl, trivial⟩
    · refine im_iconst (q := 17) D264_16 ?_
      refine im_goto (q := 20) (t := 38) D264_17 rfl ?_
      exact (kJ11 (1) (Or.inr (Or.inr (Or.inr (Or.inl ⟨hc2, (Decidable.not_not.mp hc4), rfl⟩))))).wk ⟨rfl, trivial⟩
  · refine im_ld (q := 9) (i := 1) D264_8 rfl rfl rfl ?_
    refine im_goto (q := 12) (t := 38) D264_9 rfl ?_
    exact (kJ11 (p1) (Or.inr (Or.inr (Or.inr (Or.inr ⟨hc2, rfl⟩))))).wk ⟨rfl, trivial⟩
set_option maxRecDepth 20000 in
set_option maxHeartbeats 4000000 in
theorem b_trim_0 {g : im_g} {d : Nat} {e : im_E} {M : im_M} {K : im_K} {p1 : Int} (hd : 1 ≤ d) (hP : (im_i32 p1) ∧ ((∀ x3 : Int, (((p1 < 0) ∧ x3 = 0) ∨ ((0 ≤ p1) ∧ x3 = 1)) → im_T g (d - 1) 264 0 [some (.ref 6952), some (vI 1), some (vI 1), some (vI x3), some (vI 1)] [] e M (im_ri (fun x8 e_ M7 => e = e_ ∧ (im_i32 x8) ∧ ((((x8 = 0 → K (.inl (some (vI 0))) e M7))) ∧ (∀ x14 : Int, (((¬ x8 = 0) ∧ ((M7 6952 2) ≤ p1) ∧ x14 = (M7 6952 2)) ∨ ((¬ x8 = 0) ∧ (p1 < (M7 6952 2)) ∧ x14 = p1)) → (im_i32 x14) ∧ K (.inl (some (vI x14))) e (im_u M7 6952 2 x14)))))))) : im_T g d 265 0 [some (.ref 6952), some (vI p1)] [] e M K := by
  refine im_ld (q := 1) (i := 0) D265_0 rfl rfl rfl ?_
  refine im_iconst (q := 2) D265_1 ?_
  refine im_iconst (q := 3) D265_2 ?_
  refine im_ld (q := 4) (i := 1) D265_3 rfl rfl rfl ?_
  obtain ⟨hg1, hP⟩ := hP
  have hJ4 := hP
  have kJ5 : ∀ x3 : Int, (((p1 < 0) ∧ x3 = 0) ∨ ((0 ≤ p1) ∧ x3 = 1)) → im_T g d 265 12 [some (.ref 6952), some (vI p1)] [vI x3, vI 1, vI 1, .ref 6952] e M K := by
    intro x3 hx6
    have hP := hJ4 x3 hx6
    refine im_iconst (q := 13) D265_12 ?_
    refine im_callV (q := 16) (kd := 1) (y := 264) (n := 4) (ci := 12) (a := 6952) (vs := [.ref 6952, vI 1, vI 1, vI x3, vI 1]) (r := []) (L2 := [some (.ref 6952), some (vI 1), some (vI 1), some (vI x3), some (vI 1)]) D265_13 (im_cal cn_265 cl_12_419) (Or.inl rfl) rfl sf_6952 rfl rfl rfl rfl hd ⟨rfl, rfl, rfl, rfl, rfl, trivial⟩ ?_
    refine hP.mono ?_
    rintro _ e20 M7 ⟨x8, rfl, rfl, hP⟩
    refine im_bkS ?_
    obtain ⟨hg9, hP⟩ := hP
    obtain ⟨hP, hJ15⟩ := hP
    have kJ16 : ∀ x14 : Int, (((¬ x8 = 0) ∧ ((M7 6952 2) ≤ p1) ∧ x14 = (M7 6952 2)) ∨ ((¬ x8 = 0) ∧ (p1 < (M7 6952 2)) ∧ x14 = p1)) → im_T g d 265 38 [some (.ref 6952), none] [vI x14, .ref 6952] e M7 K := by
      intro x14 hx17
      have hP := hJ15 x14 hx17
      obtain ⟨hg18, hP⟩ := hP
      refine im_pfI (q := 41) D265_38 (im_fl cn_265 fl_12_416) sf_6952 rfl rfl ti_12_2 hg18 ?_
      refine im_ld (q := 42) (i := 0) D265_41 rfl rfl rfl ?_
      refine im_gfI (q := 45) D265_42 (im_fl cn_265 fl_12_416) sf_6952 rfl rfl tI_12_2 (im_rds _ _ _ _) ?_
      exact im_iret (q := 46) D265_45 rfl hP
    refine im_ifc (q := 19) (t := 21) D265_16 rfl hg9 (fun hc10 => ?_) (fun hc10 => ?_)
    · refine im_ld (q := 22) (i := 0) D265_21 rfl rfl rfl ?_
      refine im_ld (q := 23) (i := 1) D265_22 rfl rfl rfl ?_
      refine im_ld (q := 24) (i := 0) D265_23 rfl rfl rfl ?_
      refine im_rng (j := 2) sf_6952 (by decide) (by decide) (fun hr11 => ?_)
      refine im_gfI (q := 27) D265_24 (im_fl cn_265 fl_12_416) sf_6952 rfl rfl tI_12_2 rfl ?_
      refine im_icmp (q := 30) (t := 34) D265_27 rfl hg1 hr11 (fun hc12 => ?_) (fun hc12 => ?_)
      · refine im_ld (q := 35) (i := 0) D265_34 rfl rfl rfl ?_
        refine im_gfI (q := 38) D265_35 (im_fl cn_265 fl_12_416) sf_6952 rfl rfl tI_12_2 rfl ?_
        exact (kJ16 ((M7 6952 2)) (Or.inl ⟨hc10, hc12, rfl⟩)).wk ⟨rfl, trivial⟩
      · refine im_ld (q := 31) (i := 1) D265_30 rfl rfl rfl ?_
        refine im_goto (q := 34) (t := 38) D265_31 rfl ?_
        exact (kJ16 (p1) (Or.inr ⟨hc10, (Int.not_le.mp hc12), rfl⟩)).wk ⟨rfl, trivial⟩
    · replace hP := hP (Decidable.not_not.mp hc10)
      refine im_iconst (q := 20) D265_19 ?_
      exact im_iret (q := 21) D265_20 rfl hP
  refine im_ifc (q := 7) (t := 11) D265_4 rfl hg1 (fun hc2 => ?_) (fun hc2 => ?_)
  · refine im_iconst (q := 12) D265_11 ?_
    exact (kJ5 (0) (Or.inl ⟨hc2, rfl⟩)).wk ⟨rfl, rfl, trivial⟩
  · refine im_iconst (q := 8) D265_7 ?_
    refine im_goto (q := 11) (t := 12) D265_8 rfl ?_
    exact (kJ5 (1) (Or.inr ⟨(Int.not_lt.mp hc2), rfl⟩)).wk ⟨rfl, rfl, trivial⟩
set_option maxRecDepth 20000 in
set_option maxHeartbeats 4000000 in
theorem b_size_0 {g : im_g} {d : Nat} {e : im_E} {M : im_M} {K : im_K} (hd : 1 ≤ d) (hP : im_T g (d - 1) 264 0 [some (.ref 6952), some (vI 1), some (vI 1), some (vI 1), some (vI 1)] [] e M (im_ri (fun x2 e_ M1 => e = e_ ∧ (im_i32 x2) ∧ ((∀ x6 : Int, (((x2 = 0) ∧ x6 = 0) ∨ ((¬ x2 = 0) ∧ x6 = (M1 6952 4))) → K (.inl (some (vI x6))) e M1))))) : im_T g d 266 0 [some (.ref 6952)] [] e M K := by
  refine im_ld (q := 1) (i := 0) D266_0 rfl rfl rfl ?_
  refine im_iconst (q := 2) D266_1 ?_
  refine im_iconst (q := 3) D266_2 ?_
  refine im_iconst (q := 4) D266_3 ?_
  refine im_iconst (q := 5) D266_4 ?_
  refine im_callV (q := 8) (kd := 1) (y := 264) (n := 4) (ci := 12) (a := 6952) (vs := [.ref 6952, vI 1, vI 1, vI 1, vI 1]) (r := []) (L2 := [some (.ref 6952), some (vI 1), some (vI 1), some (vI 1), some (vI 1)]) D266_5 (im_cal cn_266 cl_12_419) (Or.inl rfl) rfl sf_6952 rfl rfl rfl rfl hd ⟨rfl, rfl, rfl, rfl, rfl, trivial⟩ ?_
  refine hP.mono ?_
  rintro _ e10 M1 ⟨x2, rfl, rfl, hP⟩
  refine im_bkS ?_
  obtain ⟨hg3, hP⟩ := hP
  have hJ7 := hP
  have kJ8 : ∀ x6 : Int, (((x2 = 0) ∧ x6 = 0) ∨ ((¬ x2 = 0) ∧ x6 = (M1 6952 4))) → im_T g d 266 19 [none] [vI x6] e M1 K := by
    intro x6 hx9
    have hP := hJ7 x6 hx9
    exact im_iret (q := 20) D266_19 rfl hP
  refine im_ifc (q := 11) (t := 18) D266_8 rfl hg3 (fun hc4 => ?_) (fun hc4 => ?_)
  · refine im_iconst (q := 19) D266_18 ?_
    exact (kJ8 (0) (Or.inl ⟨hc4, rfl⟩)).wk trivial
  · refine im_ld (q := 12) (i := 0) D266_11 rfl rfl rfl ?_
    refine im_rng (j := 4) sf_6952 (by decide) (by decide) (fun hr5 => ?_)
    refine im_gfI (q := 15) D266_12 (im_fl cn_266 fl_12_423) sf_6952 rfl rfl tI_12_4 rfl ?_
    refine im_goto (q := 18) (t := 19) D266_15 rfl ?_
    exact (kJ8 ((M1 6952 4)) (Or.inr ⟨hc4, rfl⟩)).wk trivial
set_option maxRecDepth 20000 in
set_option maxHeartbeats 4000000 in
theorem b_word_0 {g : im_g} {d : Nat} {e : im_E} {M : im_M} {K : im_K} {p1 : Int} (hd : 1 ≤ d) (hP : im_T g (d - 1) 264 0 [some (.ref 6952), some (vI 1), some (vI 1), some (vI 1), some (vI 1)] [] e M (im_ri (fun x2 e_ M1 => e = e_ ∧ (im_i32 x2) ∧ ((¬ x2 = 0 → im_T g d 267 18 [some (.ref 6952), some (vI p1), some (vL 0), none, some (vI 0), none] [] e M1 K) ∧ (x2 = 0 → K (.inl (some (vL 0))) e M1))))) : im_T g d 267 0 [some (.ref 6952), some (vI p1), none, none, none, none] [] e M K := by
  refine im_ld (q := 1) (i := 0) D267_0 rfl rfl rfl ?_
  refine im_iconst (q := 2) D267_1 ?_
  refine im_iconst (q := 3) D267_2 ?_
  refine im_iconst (q := 4) D267_3 ?_
  refine im_iconst (q := 5) D267_4 ?_
  refine im_callV (q := 8) (kd := 1) (y := 264) (n := 4) (ci := 12) (a := 6952) (vs := [.ref 6952, vI 1, vI 1, vI 1, vI 1]) (r := []) (L2 := [some (.ref 6952), some (vI 1), some (vI 1), some (vI 1), some (vI 1)]) D267_5 (im_cal cn_267 cl_12_419) (Or.inl rfl) rfl sf_6952 rfl rfl rfl rfl hd ⟨rfl, rfl, rfl, rfl, rfl, trivial⟩ ?_
  refine hP.mono ?_
  rintro _ e5 M1 ⟨x2, rfl, rfl, hP⟩
  refine im_bkS ?_
  obtain ⟨hg3, hP⟩ := hP
  refine im_ifc (q := 11) (t := 13) D267_8 rfl hg3 (fun hc4 => ?_) (fun hc4 => ?_)
  · replace hP := hP.1 hc4
    refine im_lconst (q := 14) (z := 0) D267_13 rfl ?_
    refine im_st2 (q := 15) (i := 2) (L' := [some (.ref 6952), some (vI p1), some (vL 0), none, none, none]) D267_14 (Or.inl ⟨_, rfl, rfl⟩) (Nat.le_of_ble_eq_true rfl) rfl ?_
    refine im_iconst (q := 16) D267_15 ?_
    refine im_st1 (q := 18) (i := 4) (L' := [some (.ref 6952), some (vI p1), some (vL 0), none, some (vI 0), none]) D267_16 (Or.inr rfl) (Nat.le_of_ble_eq_true rfl) rfl ?_
    exact hP.wk ⟨rfl, rfl, rfl, rfl, trivial⟩
  · replace hP := hP.2 (Decidable.not_not.mp hc4)
    refine im_lconst (q := 12) (z := 0) D267_11 rfl ?_
    exact im_lret (q := 13) D267_12 rfl hP
set_option maxRecDepth 20000 in
set_option maxHeartbeats 4000000 in
theorem b_word_18 {g : im_g} {d : Nat} {e : im_E} {M : im_M} {K : im_K} {p1 p2 p4 : Int} (hd : 1 ≤ d) (hP : (im_i32 p4) ∧ ((8 ≤ p4 → K (.inl (some (vL p2))) e M) ∧ (p4 < 8 → (im_i32 p1) ∧ im_T g (d - 1) 268 0 [some (vL p1), none, some (vL 0), none, some (vL 2047), none] [] e M (im_ri (fun x5 e_ M4 => e = e_ ∧ (im_i32 x5) ∧ ((((¬ x5 = 0 → (im_i32 ((8 * p1) + p4)) ∧ ((((8 * p1) + p4) < (M4 6952 4) → (0 ≤ ((8 * p1) + p4) ∧ ((8 * p1) + p4) < 16384) ∧ im_T g d 267 18 [some (.ref 6952), some (vI p1), some (vL (xlor (xlshl p2 8) (M4 6954 ((8 * p1) + p4)))), none, some (vI (p4 + 1)), none] [] e M4 K))))) ∧ ((((x5 = 0)) ∨ ((¬ x5 = 0) ∧ ((M4 6952 4) ≤ ((8 * p1) + p4)))) → im_T g d 267 18 [some (.ref 6952), some (vI p1), some (vL (xlor (xlshl p2 8) 0)), none, some (vI (p4 + 1)), none] [] e M4 K))))))) : im_T g d 267 18 [some (.ref 6952), some (vI p1), some (vL p2), none, some (vI p4), none] [] e M K := by
  refine im_ld (q := 20) (i := 4) D267_18 rfl rfl rfl ?_
  refine im_bipush (q := 22) D267_20 rfl ?_
  obtain ⟨hg1, hP⟩ := hP
  refine im_icmp (q := 25) (t := 92) D267_22 rfl hg1 (by decide) (fun hc2 => ?_) (fun hc2 => ?_)
  · replace hP := hP.1 hc2
    refine im_ld (q := 93) (i := 2) D267_92 rfl rfl rfl ?_
    exact im_lret (q := 94) D267_93 rfl hP
  · replace hP := hP.2 (Int.not_le.mp hc2)
    refine im_ld (q := 26) (i := 1) D267_25 rfl rfl rfl ?_
    obtain ⟨hg3, hP⟩ := hP
    refine im_i2l (q := 27) D267_26 hg3 ?_
    refine im_lconst (q := 28) (z := 0) D267_27 rfl ?_
    refine im_ldc2 (q := 31) (n := 2047) D267_28 rfl ?_
    refine im_callS (q := 34) (kd := 0) (y := 268) (n := 3) (z := 12) (vs := [vL p1, vL 0, vL 2047]) (r := []) (L2 := [some (vL p1), none, some (vL 0), none, some (vL 2047), none]) D267_31 rfl (im_cal cn_267 cl_12_428) (Or.inl rfl) rfl rfl rfl rfl rfl hd ⟨rfl, rfl, rfl, trivial⟩ ?_
    refine hP.mono ?_
    rintro _ e18 M4 ⟨x5, rfl, rfl, hP⟩
    refine im_bkS ?_
    obtain ⟨hg6, hP⟩ := hP
    obtain ⟨hP, hJ11⟩ := hP
    have kJ12 : (((x5 = 0)) ∨ ((¬ x5 = 0) ∧ ((M4 6952 4) ≤ ((8 * p1) + p4)))) → im_T g d 267 55 [some (.ref 6952), some (vI p1), some (vL p2), none, some (vI p4), none] [] e M4 K := by
      intro  hx13
      have hP := hJ11  hx13
      refine im_iconst (q := 56) D267_55 ?_
      refine im_st1 (q := 58) (i := 5) (L' := [some (.ref 6952), some (vI p1), some (vL p2), none, some (vI p4), some (vI 0)]) D267_56 (Or.inr rfl) (Nat.le_of_ble_eq_true rfl) rfl ?_
      refine im_ld (q := 59) (i := 2) D267_58 rfl rfl rfl ?_
      refine im_bipush (q := 61) D267_59 rfl ?_
      refine im_lshl (q := 62) D267_61 ?_
      refine im_ld (q := 64) (i := 5) D267_62 rfl rfl rfl ?_
      refine im_ifc (q := 67) (t := 82) D267_64 rfl (by decide) (fun _ => ?_) (fun hc => absurd (show (0 : Int) = 0 by decide) hc)
      refine im_iconst (q := 83) D267_82 ?_
      refine im_i2l (q := 84) D267_83 (by decide) ?_
      refine im_lor (q := 85) D267_84 ?_
      refine im_st2 (q := 86) (i := 2) (L' := [some (.ref 6952), some (vI p1), some (vL (xlor (xlshl p2 8) 0)), none, some (vI p4), some (vI 0)]) D267_85 (Or.inl ⟨_, rfl, rfl⟩) (Nat.le_of_ble_eq_true rfl) rfl ?_
      refine im_iinc (q := 89) (i := 4) (L' := [some (.ref 6952), some (vI p1), some (vL (xlor (xlshl p2 8) 0)), none, some (vI (p4 + 1)), some (vI 0)]) D267_86 rfl (Nat.le_of_ble_eq_true rfl) rfl ?_
      refine im_goto (q := 92) (t := 18) D267_89 rfl ?_
      exact hP.wk ⟨rfl, rfl, rfl, rfl, trivial⟩
    refine im_ifc (q := 37) (t := 55) D267_34 rfl hg6 (fun hc7 => ?_) (fun hc7 => ?_)
    · exact (kJ12  (Or.inl hc7)).wk ⟨rfl, rfl, rfl, rfl, trivial⟩
    · replace hP := hP hc7
      refine im_bipush (q := 39) D267_37 rfl ?_
      refine im_ld (q := 40) (i := 1) D267_39 rfl rfl rfl ?_
      refine im_imul (q := 41) D267_40 ?_
      refine im_ld (q := 43) (i := 4) D267_41 rfl rfl rfl ?_
      refine im_iadd (q := 44) D267_43 ?_
      refine im_ld (q := 45) (i := 0) D267_44 rfl rfl rfl ?_
      refine im_rng (j := 4) sf_6952 (by decide) (by decide) (fun hr8 => ?_)
      refine im_gfI (q := 48) D267_45 (im_fl cn_267 fl_12_423) sf_6952 rfl rfl tI_12_4 rfl ?_
      obtain ⟨hg9, hP⟩ := hP
      refine im_icmp (q := 51) (t := 55) D267_48 rfl hg9 hr8 (fun hc10 => ?_) (fun hc10 => ?_)
      · exact (kJ12  (Or.inr ⟨hc7, hc10⟩)).wk ⟨rfl, rfl, rfl, rfl, trivial⟩
      · replace hP := hP (Int.not_le.mp hc10)
        refine im_iconst (q := 52) D267_51 ?_
        refine im_goto (q := 55) (t := 56) D267_52 rfl ?_
        refine im_st1 (q := 58) (i := 5) (L' := [some (.ref 6952), some (vI p1), some (vL p2), none, some (vI p4), some (vI 1)]) D267_56 (Or.inr rfl) (Nat.le_of_ble_eq_true rfl) rfl ?_
        refine im_ld (q := 59) (i := 2) D267_58 rfl rfl rfl ?_
        refine im_bipush (q := 61) D267_59 rfl ?_
        refine im_lshl (q := 62) D267_61 ?_
        refine im_ld (q := 64) (i := 5) D267_62 rfl rfl rfl ?_
        refine im_ifc (q := 67) (t := 82) D267_64 rfl (by decide) (fun hc => absurd hc (show ¬ ((1 : Int) = 0) by decide)) (fun _ => ?_)
        refine im_ld (q := 68) (i := 0) D267_67 rfl rfl rfl ?_
        refine im_gfR (q := 71) (b := 6954) D267_68 (im_fl cn_267 fl_12_13) sf_6952 rfl rfl tR_12_3 rf_6952_3 ?_
        refine im_bipush (q := 73) D267_71 rfl ?_
        refine im_ld (q := 74) (i := 1) D267_73 rfl rfl rfl ?_
        refine im_imul (q := 75) D267_74 ?_
        refine im_ld (q := 77) (i := 4) D267_75 rfl rfl rfl ?_
        refine im_iadd (q := 78) D267_77 ?_
        obtain ⟨hg16, hP⟩ := hP
        refine im_rng (j := ((8 * p1) + p4)) sf_6954 hg16.1 hg16.2 (fun hr17 => ?_)
        refine im_iald (q := 79) D267_78 sf_6954 hg16.1 hg16.2 (by decide) rfl ?_
        refine im_goto (q := 82) (t := 83) D267_79 rfl ?_
        refine im_i2l (q := 84) D267_83 hr17 ?_
        refine im_lor (q := 85) D267_84 ?_
        refine im_st2 (q := 86) (i := 2) (L' := [some (.ref 6952), some (vI p1), some (vL (xlor (xlshl p2 8) (M4 6954 ((8 * p1) + p4)))), none, some (vI p4), some (vI 1)]) D267_85 (Or.inl ⟨_, rfl, rfl⟩) (Nat.le_of_ble_eq_true rfl) rfl ?_
        refine im_iinc (q := 89) (i := 4) (L' := [some (.ref 6952), some (vI p1), some (vL (xlor (xlshl p2 8) (M4 6954 ((8 * p1) + p4)))), none, some (vI (p4 + 1)), some (vI 1)]) D267_86 rfl (Nat.le_of_ble_eq_true rfl) rfl ?_
        refine im_goto (q := 92) (t := 18) D267_89 rfl ?_
        exact hP.wk ⟨rfl, rfl, rfl, rfl, trivial⟩
set_option maxRecDepth 20000 in
set_option maxHeartbeats 4000000 in
theorem b_isIn_0 {g : im_g} {d : Nat} {e : im_E} {M : im_M} {K : im_K} {p0 p2 p4 : Int} (hP : (im_i64 p0) ∧ (im_i64 p2) ∧ ((((p2 ≤ p0 → (im_i64 p4) ∧ ((p0 ≤ p4 → K (.inl (some (vI 1))) e M))))) ∧ ((((p0 < p2)) ∨ ((p2 ≤ p0) ∧ (p4 < p0))) → K (.inl (some (vI 0))) e M))) : im_T g d 268 0 [some (vL p0), none, some (vL p2), none, some (vL p4), none] [] e M K := by
  refine im_ld (q := 1) (i := 0) D268_0 rfl rfl rfl ?_
  refine im_ld (q := 2) (i := 2) D268_1 rfl rfl rfl ?_
  obtain ⟨hg1, hP⟩ := hP
  obtain ⟨hg2, hP⟩ := hP
  obtain ⟨hP, hJ6⟩ := hP
  have kJ7 : (((p0 < p2)) ∨ ((p2 ≤ p0) ∧ (p4 < p0))) → im_T g d 268 17 [none, none, none, none, none, none] [] e M K := by
    intro  hx8
    have hP := hJ6  hx8
    refine im_iconst (q := 18) D268_17 ?_
    exact im_zret (q := 19) D268_18 rfl (by decide) hP
  refine im_lif (q := 3) (q2 := 6) (t := 17) D268_2 D268_3 rfl hg1 hg2 (fun hc3 => ?_) (fun hc3 => ?_)
  · exact (kJ7  (Or.inl hc3)).wk trivial
  · replace hP := hP (Int.not_lt.mp hc3)
    refine im_ld (q := 7) (i := 0) D268_6 rfl rfl rfl ?_
    refine im_ld (q := 9) (i := 4) D268_7 rfl rfl rfl ?_
    obtain ⟨hg4, hP⟩ := hP
    refine im_lif (q := 10) (q2 := 13) (t := 17) D268_9 D268_10 rfl hg1 hg4 (fun hc5 => ?_) (fun hc5 => ?_)
    · exact (kJ7  (Or.inr ⟨(Int.not_lt.mp hc3), hc5⟩)).wk trivial
    · replace hP := hP (Int.not_lt.mp hc5)
      refine im_iconst (q := 14) D268_13 ?_
      refine im_goto (q := 17) (t := 18) D268_14 rfl ?_
      exact im_zret (q := 19) D268_18 rfl (by decide) hP
set_option maxRecDepth 20000 in
set_option maxHeartbeats 4000000 in
theorem b_show_0 {g : im_g} {d : Nat} {e : im_E} {M : im_M} {K : im_K} (hd : 1 ≤ d) (hP : im_T g (d - 1) 264 0 [some (.ref 6952), some (vI 1), some (vI 1), some (vI 1), some (vI 1)] [] e M (im_ri (fun x2 e_ M1 => e = e_ ∧ (im_i32 x2) ∧ ((¬ x2 = 0 → im_T g d 269 15 [some (.ref 6952), some (vI 0)] [] e M1 K) ∧ (x2 = 0 → K (.inl (some (vI 0))) e M1))))) : im_T g d 269 0 [some (.ref 6952), none] [] e M K := by
  refine im_ld (q := 1) (i := 0) D269_0 rfl rfl rfl ?_
  refine im_iconst (q := 2) D269_1 ?_
  refine im_iconst (q := 3) D269_2 ?_
  refine im_iconst (q := 4) D269_3 ?_
  refine im_iconst (q := 5) D269_4 ?_
  refine im_callV (q := 8) (kd := 1) (y := 264) (n := 4) (ci := 12) (a := 6952) (vs := [.ref 6952, vI 1, vI 1, vI 1, vI 1]) (r := []) (L2 := [some (.ref 6952), some (vI 1), some (vI 1), some (vI 1), some (vI 1)]) D269_5 (im_cal cn_269 cl_12_419) (Or.inl rfl) rfl sf_6952 rfl rfl rfl rfl hd ⟨rfl, rfl, rfl, rfl, rfl, trivial⟩ ?_
  refine hP.mono ?_
  rintro _ e5 M1 ⟨x2, rfl, rfl, hP⟩
  refine im_bkS ?_
  obtain ⟨hg3, hP⟩ := hP
  refine im_ifc (q := 11) (t := 13) D269_8 rfl hg3 (fun hc4 => ?_) (fun hc4 => ?_)
  · replace hP := hP.1 hc4
    refine im_iconst (q := 14) D269_13 ?_
    refine im_st1 (q := 15) (i := 1) (L' := [some (.ref 6952), some (vI 0)]) D269_14 (Or.inl ⟨_, rfl, rfl⟩) (Nat.le_of_ble_eq_true rfl) rfl ?_
    exact hP.wk ⟨rfl, rfl, trivial⟩
  · replace hP := hP.2 (Decidable.not_not.mp hc4)
    refine im_iconst (q := 12) D269_11 ?_
    exact im_iret (q := 13) D269_12 rfl hP
set_option maxRecDepth 20000 in
set_option maxHeartbeats 4000000 in
theorem b_show_15 {g : im_g} {d : Nat} {e : im_E} {M : im_M} {K : im_K} {p1 : Int} (hP : (im_i32 p1) ∧ (((M 6952 2) ≤ p1 → K (.inl (some (vI (M 6952 2)))) e (im_u M 6952 4 (M 6952 2))) ∧ (p1 < (M 6952 2) → (0 ≤ p1 ∧ p1 < 16384) ∧ im_T g d 269 15 [some (.ref 6952), some (vI (p1 + 1))] [] e (im_u M 6954 p1 (M 6953 p1)) K))) : im_T g d 269 15 [some (.ref 6952), some (vI p1)] [] e M K := by
  refine im_ld (q := 16) (i := 1) D269_15 rfl rfl rfl ?_
  refine im_ld (q := 17) (i := 0) D269_16 rfl rfl rfl ?_
  refine im_rng (j := 2) sf_6952 (by decide) (by decide) (fun hr1 => ?_)
  refine im_gfI (q := 20) D269_17 (im_fl cn_269 fl_12_416) sf_6952 rfl rfl tI_12_2 rfl ?_
  obtain ⟨hg2, hP⟩ := hP
  refine im_icmp (q := 23) (t := 41) D269_20 rfl hg2 hr1 (fun hc3 => ?_) (fun hc3 => ?_)
  · replace hP := hP.1 hc3
    refine im_ld (q := 42) (i := 0) D269_41 rfl rfl rfl ?_
    refine im_ld (q := 43) (i := 0) D269_42 rfl rfl rfl ?_
    refine im_gfI (q := 46) D269_43 (im_fl cn_269 fl_12_416) sf_6952 rfl rfl tI_12_2 rfl ?_
    refine im_pfI (q := 49) D269_46 (im_fl cn_269 fl_12_423) sf_6952 rfl rfl ti_12_4 hr1 ?_
    refine im_ld (q := 50) (i := 0) D269_49 rfl rfl rfl ?_
    refine im_gfI (q := 53) D269_50 (im_fl cn_269 fl_12_423) sf_6952 rfl rfl tI_12_4 (im_rds _ _ _ _) ?_
    exact im_iret (q := 54) D269_53 rfl hP
  · replace hP := hP.2 (Int.not_le.mp hc3)
    refine im_ld (q := 24) (i := 0) D269_23 rfl rfl rfl ?_
    refine im_gfR (q := 27) (b := 6954) D269_24 (im_fl cn_269 fl_12_13) sf_6952 rfl rfl tR_12_3 rf_6952_3 ?_
    refine im_ld (q := 28) (i := 1) D269_27 rfl rfl rfl ?_
    refine im_ld (q := 29) (i := 0) D269_28 rfl rfl rfl ?_
    refine im_gfR (q := 32) (b := 6953) D269_29 (im_fl cn_269 fl_12_7) sf_6952 rfl rfl tR_12_1 rf_6952_1 ?_
    refine im_ld (q := 33) (i := 1) D269_32 rfl rfl rfl ?_
    obtain ⟨hg5, hP⟩ := hP
    refine im_rng (j := p1) sf_6953 hg5.1 hg5.2 (fun hr6 => ?_)
    refine im_iald (q := 34) D269_33 sf_6953 hg5.1 hg5.2 (by decide) rfl ?_
    refine im_iast (q := 35) D269_34 sf_6954 hg5.1 hg5.2 (by decide) hr6 ?_
    refine im_iinc (q := 38) (i := 1) (L' := [some (.ref 6952), some (vI (p1 + 1))]) D269_35 rfl (Nat.le_of_ble_eq_true rfl) rfl ?_
    refine im_goto (q := 41) (t := 15) D269_38 rfl ?_
    exact hP.wk ⟨rfl, rfl, trivial⟩
set_option maxRecDepth 20000 in
set_option maxHeartbeats 4000000 in
theorem b_keep_0 {g : im_g} {d : Nat} {e : im_E} {M : im_M} {K : im_K} {p1 : Int} (hd : 1 ≤ d) (hP : (((M 6952 180) = 0 → im_T g (d - 1) 271 0 [some (.ref 6952), none] [] e M (im_r0 (fun  e_ M3 => e = e_ ∧ (im_i32 p1) ∧ im_T g (d - 1) 268 0 [some (vL p1), none, some (vL 0), none, some (vL 15), none] [] e M3 (im_ri (fun x6 e_ M5 => e = e_ ∧ im_T g (d - 1) 268 0 [some (vL p1), none, some (vL 0), none, some (vL 15), none] [] e M5 (im_ri (fun x8 e_ M7 => e = e_ ∧ (im_i32 x8) ∧ ((((¬ x8 = 0 → (0 ≤ p1 ∧ p1 < 16) ∧ (((M7 6984 p1) = 0 → im_T g (d - 1) 264 0 [some (.ref 6952), some (vI 2), some (vI x6), some (vI 1), some (vI 1)] [] e M7 (im_ri (fun x42 e_ M41 => e = e_ ∧ (im_i32 x42) ∧ ((¬ x42 = 0 → im_T g (d - 1) 272 0 [some (.ref 6952), some (vI p1)] [] e M41 (im_ri (fun x46 e_ M45 => e = e_ ∧ (im_i32 x46) ∧ ((¬ x46 = 0 → ((¬ x46 = (-100) → ((0 ≤ x46 → im_T g (d - 1) 312 0 [some (.ref 6952), some (vI p1)] [] e M45 (im_ri (fun x52 e_ M51 => e = e_ ∧ K (.inl (some (vI x52))) e M51))) ∧ (x46 < 0 → K (.inl (some (vI x46))) e M45))) ∧ (x46 = (-100) → K (.inl (some (vI 0))) e (im_u M45 6952 0 2)))) ∧ (x46 = 0 → im_T g (d - 1) 307 0 [some (.ref 6952), some (vI 1), some (vI 1), some (vL p1), none, some (vL 0), none, some (vL 0), none, some (vI 1), none, none, none, none] [] e M45 (im_ri (fun x55 e_ M54 => e = e_ ∧ (im_i32 x55) ∧ ((¬ x55 = (-100) → ((0 ≤ x55 → im_T g (d - 1) 312 0 [some (.ref 6952), some (vI p1)] [] e M54 (im_ri (fun x60 e_ M59 => e = e_ ∧ K (.inl (some (vI x60))) e M59))) ∧ (x55 < 0 → K (.inl (some (vI x55))) e M54))) ∧ (x55 = (-100) → K (.inl (some (vI 0))) e (im_u M54 6952 0 2)))))))))) ∧ (x42 = 0 → K (.inl (some (vI 0))) e M41))))))))) ∧ ((((x8 = 0)) ∨ ((¬ x8 = 0) ∧ (¬ (M7 6984 p1) = 0))) → im_T g (d - 1) 264 0 [some (.ref 6952), some (vI 2), some (vI x6), some (vI 0), some (vI 1)] [] e M7 (im_ri (fun x18 e_ M17 => e = e_ ∧ (im_i32 x18) ∧ ((¬ x18 = 0 → im_T g (d - 1) 272 0 [some (.ref 6952), some (vI p1)] [] e M17 (im_ri (fun x22 e_ M21 => e = e_ ∧ (im_i32 x22) ∧ ((¬ x22 = 0 → ((¬ x22 = (-100) → ((0 ≤ x22 → im_T g (d - 1) 312 0 [some (.ref 6952), some (vI p1)] [] e M21 (im_ri (fun x28 e_ M27 => e = e_ ∧ K (.inl (some (vI x28))) e M27))) ∧ (x22 < 0 → K (.inl (some (vI x22))) e M21))) ∧ (x22 = (-100) → K (.inl (some (vI 0))) e (im_u M21 6952 0 2)))) ∧ (x22 = 0 → im_T g (d - 1) 307 0 [some (.ref 6952), some (vI 1), some (vI 1), some (vL p1), none, some (vL 0), none, some (vL 0), none, some (vI 1), none, none, none, none] [] e M21 (im_ri (fun x31 e_ M30 => e = e_ ∧ (im_i32 x31) ∧ ((¬ x31 = (-100) → ((0 ≤ x31 → im_T g (d - 1) 312 0 [some (.ref 6952), some (vI p1)] [] e M30 (im_ri (fun x36 e_ M35 => e = e_ ∧ K (.inl (some (vI x36))) e M35))) ∧ (x31 < 0 → K (.inl (some (vI x31))) e M30))) ∧ (x31 = (-100) → K (.inl (some (vI 0))) e (im_u M30 6952 0 2)))))))))) ∧ (x18 = 0 → K (.inl (some (vI 0))) e M17))))))))))))) ∧ (¬ (M 6952 180) = 0 → K (.inl (some (vI 0))) e (im_u M 6952 0 2)))) : im_T g d 270 0 [some (.ref 6952), some (vI p1), none] [] e M K := by
  refine im_ld (q := 1) (i := 0) D270_0 rfl rfl rfl ?_
  refine im_rng (j := 180) sf_6952 (by decide) (by decide) (fun hr1 => ?_)
  refine im_gfI (q := 4) D270_1 (im_fl cn_270 fl_12_412) sf_6952 rfl rfl tI_12_180 rfl ?_
  refine im_ifc (q := 7) (t := 14) D270_4 rfl (im_z32 hr1) (fun hc2 => ?_) (fun hc2 => ?_)
  · replace hP := hP.1 hc2
    refine im_ld (q := 15) (i := 0) D270_14 rfl rfl rfl ?_
    refine im_callV (q := 18) (kd := 1) (y := 271) (n := 0) (ci := 12) (a := 6952) (vs := [.ref 6952]) (r := []) (L2 := [some (.ref 6952), none]) D270_15 (im_cal cn_270 cl_12_734) (Or.inl rfl) rfl sf_6952 rfl rfl rfl rfl hd ⟨rfl, trivial⟩ ?_
    refine hP.mono ?_
    rintro _ e67 M3 ⟨rfl, rfl, hP⟩
    refine im_bkN ?_
    refine im_ld (q := 19) (i := 0) D270_18 rfl rfl rfl ?_
    refine im_iconst (q := 20) D270_19 ?_
    refine im_ld (q := 21) (i := 1) D270_20 rfl rfl rfl ?_
    obtain ⟨hg4, hP⟩ := hP
    refine im_i2l (q := 22) D270_21 hg4 ?_
    refine im_lconst (q := 23) (z := 0) D270_22 rfl ?_
    refine im_ldc2 (q := 26) (n := 15) D270_23 rfl ?_
    refine im_callS (q := 29) (kd := 0) (y := 268) (n := 3) (z := 12) (vs := [vL p1, vL 0, vL 15]) (r := [vI 2, .ref 6952]) (L2 := [some (vL p1), none, some (vL 0), none, some (vL 15), none]) D270_26 rfl (im_cal cn_270 cl_12_428) (Or.inl rfl) rfl rfl rfl rfl rfl hd ⟨rfl, rfl, rfl, trivial⟩ ?_
    refine hP.mono ?_
    rintro _ e66 M5 ⟨x6, rfl, rfl, hP⟩
    refine im_bkS ?_
    refine im_ld (q := 30) (i := 1) D270_29 rfl rfl rfl ?_
    refine im_i2l (q := 31) D270_30 hg4 ?_
    refine im_lconst (q := 32) (z := 0) D270_31 rfl ?_
    refine im_ldc2 (q := 35) (n := 15) D270_32 rfl ?_
    refine im_callS (q := 38) (kd := 0) (y := 268) (n := 3) (z := 12) (vs := [vL p1, vL 0, vL 15]) (r := [vI x6, vI 2, .ref 6952]) (L2 := [some (vL p1), none, some (vL 0), none, some (vL 15), none]) D270_35 rfl (im_cal cn_270 cl_12_428) (Or.inl rfl) rfl rfl rfl rfl rfl hd ⟨rfl, rfl, rfl, trivial⟩ ?_
    refine hP.mono ?_
    rintro _ e65 M7 ⟨x8, rfl, rfl, hP⟩
    refine im_bkS ?_
    obtain ⟨hg9, hP⟩ := hP
    obtain ⟨hP, hJ14⟩ := hP
    have kJ15 : (((x8 = 0)) ∨ ((¬ x8 = 0) ∧ (¬ (M7 6984 p1) = 0))) → im_T g d 270 54 [some (.ref 6952), some (vI p1), none] [vI x6, vI 2, .ref 6952] e M7 K := by
      intro  hx16
      have hP := hJ14  hx16
      refine im_iconst (q := 55) D270_54 ?_
      refine im_iconst (q := 56) D270_55 ?_
      refine im_callV (q := 59) (kd := 1) (y := 264) (n := 4) (ci := 12) (a := 6952) (vs := [.ref 6952, vI 2, vI x6, vI 0, vI 1]) (r := []) (L2 := [some (.ref 6952), some (vI 2), some (vI x6), some (vI 0), some (vI 1)]) D270_56 (im_cal cn_270 cl_12_419) (Or.inl rfl) rfl sf_6952 rfl rfl rfl rfl hd ⟨rfl, rfl, rfl, rfl, rfl, trivial⟩ ?_
      refine hP.mono ?_
      rintro _ e40 M17 ⟨x18, rfl, rfl, hP⟩
      refine im_bkS ?_
      obtain ⟨hg19, hP⟩ := hP
      refine im_ifc (q := 62) (t := 64) D270_59 rfl hg19 (fun hc20 => ?_) (fun hc20 => ?_)
      · replace hP := hP.1 hc20
        refine im_ld (q := 65) (i := 0) D270_64 rfl rfl rfl ?_
        refine im_ld (q := 66) (i := 1) D270_65 rfl rfl rfl ?_
        refine im_callV (q := 69) (kd := 1) (y := 272) (n := 1) (ci := 12) (a := 6952) (vs := [.ref 6952, vI p1]) (r := []) (L2 := [some (.ref 6952), some (vI p1)]) D270_66 (im_cal cn_270 cl_12_737) (Or.inl rfl) rfl sf_6952 rfl rfl rfl rfl hd ⟨rfl, rfl, trivial⟩ ?_
        refine hP.mono ?_
        rintro _ e39 M21 ⟨x22, rfl, rfl, hP⟩
        refine im_bkS ?_
        refine im_st1 (q := 70) (i := 2) (L' := [some (.ref 6952), some (vI p1), some (vI x22)]) D270_69 (Or.inl ⟨_, rfl, rfl⟩) (Nat.le_of_ble_eq_true rfl) rfl ?_
        refine im_ld (q := 71) (i := 2) D270_70 rfl rfl rfl ?_
        obtain ⟨hg23, hP⟩ := hP
        refine im_ifc (q := 74) (t := 86) D270_71 rfl hg23 (fun hc24 => ?_) (fun hc24 => ?_)
        · replace hP := hP.1 hc24
          refine im_ld (q := 87) (i := 2) D270_86 rfl rfl rfl ?_
          refine im_bipush (q := 89) D270_87 rfl ?_
          refine im_icmp (q := 92) (t := 99) D270_89 rfl hg23 (by decide) (fun hc25 => ?_) (fun hc25 => ?_)
          · replace hP := hP.1 hc25
            refine im_ld (q := 100) (i := 2) D270_99 rfl rfl rfl ?_
            refine im_ifc (q := 103) (t := 107) D270_100 rfl hg23 (fun hc26 => ?_) (fun hc26 => ?_)
            · replace hP := hP.1 hc26
              refine im_ld (q := 108) (i := 0) D270_107 rfl rfl rfl ?_
              refine im_ld (q := 109) (i := 1) D270_108 rfl rfl rfl ?_
              refine im_callV (q := 112) (kd := 1) (y := 312) (n := 1) (ci := 12) (a := 6952) (vs := [.ref 6952, vI p1]) (r := []) (L2 := [some (.ref 6952), some (vI p1)]) D270_109 (im_cal cn_270 cl_12_744) (Or.inl rfl) rfl sf_6952 rfl rfl rfl rfl hd ⟨rfl, rfl, trivial⟩ ?_
              refine hP.mono ?_
              rintro _ e29 M27 ⟨x28, rfl, rfl, hP⟩
              refine im_bkS ?_
              exact im_iret (q := 113) D270_112 rfl hP
            · replace hP := hP.2 (Int.not_le.mp hc26)
              refine im_ld (q := 104) (i := 2) D270_103 rfl rfl rfl ?_
              refine im_goto (q := 107) (t := 112) D270_104 rfl ?_
              exact im_iret (q := 113) D270_112 rfl hP
          · replace hP := hP.2 (Decidable.not_not.mp hc25)
            refine im_ld (q := 93) (i := 0) D270_92 rfl rfl rfl ?_
            refine im_iconst (q := 94) D270_93 ?_
            refine im_pfI (q := 97) D270_94 (im_fl cn_270 fl_12_409) sf_6952 rfl rfl ti_12_0 (by decide) ?_
            refine im_iconst (q := 98) D270_97 ?_
            exact im_iret (q := 99) D270_98 rfl hP
        · replace hP := hP.2 (Decidable.not_not.mp hc24)
          refine im_ld (q := 75) (i := 0) D270_74 rfl rfl rfl ?_
          refine im_iconst (q := 76) D270_75 ?_
          refine im_iconst (q := 77) D270_76 ?_
          refine im_ld (q := 78) (i := 1) D270_77 rfl rfl rfl ?_
          refine im_i2l (q := 79) D270_78 hg4 ?_
          refine im_lconst (q := 80) (z := 0) D270_79 rfl ?_
          refine im_lconst (q := 81) (z := 0) D270_80 rfl ?_
          refine im_iconst (q := 82) D270_81 ?_
          refine im_callV (q := 85) (kd := 1) (y := 307) (n := 6) (ci := 12) (a := 6952) (vs := [.ref 6952, vI 1, vI 1, vL p1, vL 0, vL 0, vI 1]) (r := []) (L2 := [some (.ref 6952), some (vI 1), some (vI 1), some (vL p1), none, some (vL 0), none, some (vL 0), none, some (vI 1), none, none, none, none]) D270_82 (im_cal cn_270 cl_12_740) (Or.inl rfl) rfl sf_6952 rfl rfl rfl rfl hd ⟨rfl, rfl, rfl, rfl, rfl, rfl, rfl, trivial⟩ ?_
          refine hP.mono ?_
          rintro _ e38 M30 ⟨x31, rfl, rfl, hP⟩
          refine im_bkS ?_
          refine im_st1 (q := 86) (i := 2) (L' := [some (.ref 6952), some (vI p1), some (vI x31)]) D270_85 (Or.inl ⟨_, rfl, rfl⟩) (Nat.le_of_ble_eq_true rfl) rfl ?_
          refine im_ld (q := 87) (i := 2) D270_86 rfl rfl rfl ?_
          refine im_bipush (q := 89) D270_87 rfl ?_
          obtain ⟨hg32, hP⟩ := hP
          refine im_icmp (q := 92) (t := 99) D270_89 rfl hg32 (by decide) (fun hc33 => ?_) (fun hc33 => ?_)
          · replace hP := hP.1 hc33
            refine im_ld (q := 100) (i := 2) D270_99 rfl rfl rfl ?_
            refine im_ifc (q := 103) (t := 107) D270_100 rfl hg32 (fun hc34 => ?_) (fun hc34 => ?_)
            · replace hP := hP.1 hc34
              refine im_ld (q := 108) (i := 0) D270_107 rfl rfl rfl ?_
              refine im_ld (q := 109) (i := 1) D270_108 rfl rfl rfl ?_
              refine im_callV (q := 112) (kd := 1) (y := 312) (n := 1) (ci := 12) (a := 6952) (vs := [.ref 6952, vI p1]) (r := []) (L2 := [some (.ref 6952), some (vI p1)]) D270_109 (im_cal cn_270 cl_12_744) (Or.inl rfl) rfl sf_6952 rfl rfl rfl rfl hd ⟨rfl, rfl, trivial⟩ ?_
              refine hP.mono ?_
              rintro _ e37 M35 ⟨x36, rfl, rfl, hP⟩
              refine im_bkS ?_
              exact im_iret (q := 113) D270_112 rfl hP
            · replace hP := hP.2 (Int.not_le.mp hc34)
              refine im_ld (q := 104) (i := 2) D270_103 rfl rfl rfl ?_
              refine im_goto (q := 107) (t := 112) D270_104 rfl ?_
              exact im_iret (q := 113) D270_112 rfl hP
          · replace hP := hP.2 (Decidable.not_not.mp hc33)
            refine im_ld (q := 93) (i := 0) D270_92 rfl rfl rfl ?_
            refine im_iconst (q := 94) D270_93 ?_
            refine im_pfI (q := 97) D270_94 (im_fl cn_270 fl_12_409) sf_6952 rfl rfl ti_12_0 (by decide) ?_
            refine im_iconst (q := 98) D270_97 ?_
            exact im_iret (q := 99) D270_98 rfl hP
      · replace hP := hP.2 (Decidable.not_not.mp hc20)
        refine im_iconst (q := 63) D270_62 ?_
        exact im_iret (q := 64) D270_63 rfl hP
    refine im_ifc (q := 41) (t := 54) D270_38 rfl hg9 (fun hc10 => ?_) (fun hc10 => ?_)
    · exact (kJ15  (Or.inl hc10)).wk ⟨rfl, rfl, trivial⟩
    · replace hP := hP hc10
      refine im_ld (q := 42) (i := 0) D270_41 rfl rfl rfl ?_
      refine im_gfR (q := 45) (b := 6984) D270_42 (im_fl cn_270 fl_12_106) sf_6952 rfl rfl tR_12_52 rf_6952_52 ?_
      refine im_ld (q := 46) (i := 1) D270_45 rfl rfl rfl ?_
      obtain ⟨hg11, hP⟩ := hP
      refine im_rng (j := p1) sf_6984 hg11.1 hg11.2 (fun hr12 => ?_)
      refine im_bald (q := 47) D270_46 sf_6984 (Or.inr rfl) hg11.1 hg11.2 (by decide) rfl ?_
      refine im_ifc (q := 50) (t := 54) D270_47 rfl (im_z32 hr12) (fun hc13 => ?_) (fun hc13 => ?_)
      · exact (kJ15  (Or.inr ⟨hc10, hc13⟩)).wk ⟨rfl, rfl, trivial⟩
      · replace hP := hP (Decidable.not_not.mp hc13)
        refine im_iconst (q := 51) D270_50 ?_
        refine im_goto (q := 54) (t := 55) D270_51 rfl ?_
        refine im_iconst (q := 56) D270_55 ?_
        refine im_callV (q := 59) (kd := 1) (y := 264) (n := 4) (ci := 12) (a := 6952) (vs := [.ref 6952, vI 2, vI x6, vI 1, vI 1]) (r := []) (L2 := [some (.ref 6952), some (vI 2), some (vI x6), some (vI 1), some (vI 1)]) D270_56 (im_cal cn_270 cl_12_419) (Or.inl rfl) rfl sf_6952 rfl rfl rfl rfl hd ⟨rfl, rfl, rfl, rfl, rfl, trivial⟩ ?_
        refine hP.mono ?_
        rintro _ e64 M41 ⟨x42, rfl, rfl, hP⟩
        refine im_bkS ?_
        obtain ⟨hg43, hP⟩ := hP
        refine im_ifc (q := 62) (t := 64) D270_59 rfl hg43 (fun hc44 => ?_) (fun hc44 => ?_)
        · replace hP := hP.1 hc44
          refine im_ld (q := 65) (i := 0) D270_64 rfl rfl rfl ?_
          refine im_ld (q := 66) (i := 1) D270_65 rfl rfl rfl ?_
          refine im_callV (q := 69) (kd := 1) (y := 272) (n := 1) (ci := 12) (a := 6952) (vs := [.ref 6952, vI p1]) (r := []) (L2 := [some (.ref 6952), some (vI p1)]) D270_66 (im_cal cn_270 cl_12_737) (Or.inl rfl) rfl sf_6952 rfl rfl rfl rfl hd ⟨rfl, rfl, trivial⟩ ?_
          refine hP.mono ?_
          rintro _ e63 M45 ⟨x46, rfl, rfl, hP⟩
          refine im_bkS ?_
          refine im_st1 (q := 70) (i := 2) (L' := [some (.ref 6952), some (vI p1), some (vI x46)]) D270_69 (Or.inl ⟨_, rfl, rfl⟩) (Nat.le_of_ble_eq_true rfl) rfl ?_
          refine im_ld (q := 71) (i := 2) D270_70 rfl rfl rfl ?_
          obtain ⟨hg47, hP⟩ := hP
          refine im_ifc (q := 74) (t := 86) D270_71 rfl hg47 (fun hc48 => ?_) (fun hc48 => ?_)
          · replace hP := hP.1 hc48
            refine im_ld (q := 87) (i := 2) D270_86 rfl rfl rfl ?_
            refine im_bipush (q := 89) D270_87 rfl ?_
            refine im_icmp (q := 92) (t := 99) D270_89 rfl hg47 (by decide) (fun hc49 => ?_) (fun hc49 => ?_)
            · replace hP := hP.1 hc49
              refine im_ld (q := 100) (i := 2) D270_99 rfl rfl rfl ?_
              refine im_ifc (q := 103) (t := 107) D270_100 rfl hg47 (fun hc50 => ?_) (fun hc50 => ?_)
              · replace hP := hP.1 hc50
                refine im_ld (q := 108) (i := 0) D270_107 rfl rfl rfl ?_
                refine im_ld (q := 109) (i := 1) D270_108 rfl rfl rfl ?_
                refine im_callV (q := 112) (kd := 1) (y := 312) (n := 1) (ci := 12) (a := 6952) (vs := [.ref 6952, vI p1]) (r := []) (L2 := [some (.ref 6952), some (vI p1)]) D270_109 (im_cal cn_270 cl_12_744) (Or.inl rfl) rfl sf_6952 rfl rfl rfl rfl hd ⟨rfl, rfl, trivial⟩ ?_
                refine hP.mono ?_
                rintro _ e53 M51 ⟨x52, rfl, rfl, hP⟩
                refine im_bkS ?_
                exact im_iret (q := 113) D270_112 rfl hP
              · replace hP := hP.2 (Int.not_le.mp hc50)
                refine im_ld (q := 104) (i := 2) D270_103 rfl rfl rfl ?_
                refine im_goto (q := 107) (t := 112) D270_104 rfl ?_
                exact im_iret (q := 113) D270_112 rfl hP
            · replace hP := hP.2 (Decidable.not_not.mp hc49)
              refine im_ld (q := 93) (i := 0) D270_92 rfl rfl rfl ?_
              refine im_iconst (q := 94) D270_93 ?_
              refine im_pfI (q := 97) D270_94 (im_fl cn_270 fl_12_409) sf_6952 rfl rfl ti_12_0 (by decide) ?_
              refine im_iconst (q := 98) D270_97 ?_
              exact im_iret (q := 99) D270_98 rfl hP
          · replace hP := hP.2 (Decidable.not_not.mp hc48)
            refine im_ld (q := 75) (i := 0) D270_74 rfl rfl rfl ?_
            refine im_iconst (q := 76) D270_75 ?_
            refine im_iconst (q := 77) D270_76 ?_
            refine im_ld (q := 78) (i := 1) D270_77 rfl rfl rfl ?_
            refine im_i2l (q := 79) D270_78 hg4 ?_
            refine im_lconst (q := 80) (z := 0) D270_79 rfl ?_
            refine im_lconst (q := 81) (z := 0) D270_80 rfl ?_
            refine im_iconst (q := 82) D270_81 ?_
            refine im_callV (q := 85) (kd := 1) (y := 307) (n := 6) (ci := 12) (a := 6952) (vs := [.ref 6952, vI 1, vI 1, vL p1, vL 0, vL 0, vI 1]) (r := []) (L2 := [some (.ref 6952), some (vI 1), some (vI 1), some (vL p1), none, some (vL 0), none, some (vL 0), none, some (vI 1), none, none, none, none]) D270_82 (im_cal cn_270 cl_12_740) (Or.inl rfl) rfl sf_6952 rfl rfl rfl rfl hd ⟨rfl, rfl, rfl, rfl, rfl, rfl, rfl, trivial⟩ ?_
            refine hP.mono ?_
            rintro _ e62 M54 ⟨x55, rfl, rfl, hP⟩
            refine im_bkS ?_
            refine im_st1 (q := 86) (i := 2) (L' := [some (.ref 6952), some (vI p1), some (vI x55)]) D270_85 (Or.inl ⟨_, rfl, rfl⟩) (Nat.le_of_ble_eq_true rfl) rfl ?_
            refine im_ld (q := 87) (i := 2) D270_86 rfl rfl rfl ?_
            refine im_bipush (q := 89) D270_87 rfl ?_
            obtain ⟨hg56, hP⟩ := hP
            refine im_icmp (q := 92) (t := 99) D270_89 rfl hg56 (by decide) (fun hc57 => ?_) (fun hc57 => ?_)
            · replace hP := hP.1 hc57
              refine im_ld (q := 100) (i := 2) D270_99 rfl rfl rfl ?_
              refine im_ifc (q := 103) (t := 107) D270_100 rfl hg56 (fun hc58 => ?_) (fun hc58 => ?_)
              · replace hP := hP.1 hc58
                refine im_ld (q := 108) (i := 0) D270_107 rfl rfl rfl ?_
                refine im_ld (q := 109) (i := 1) D270_108 rfl rfl rfl ?_
                refine im_callV (q := 112) (kd := 1) (y := 312) (n := 1) (ci := 12) (a := 6952) (vs := [.ref 6952, vI p1]) (r := []) (L2 := [some (.ref 6952), some (vI p1)]) D270_109 (im_cal cn_270 cl_12_744) (Or.inl rfl) rfl sf_6952 rfl rfl rfl rfl hd ⟨rfl, rfl, trivial⟩ ?_
                refine hP.mono ?_
                rintro _ e61 M59 ⟨x60, rfl, rfl, hP⟩
                refine im_bkS ?_
                exact im_iret (q := 113) D270_112 rfl hP
              · replace hP := hP.2 (Int.not_le.mp hc58)
                refine im_ld (q := 104) (i := 2) D270_103 rfl rfl rfl ?_
                refine im_goto (q := 107) (t := 112) D270_104 rfl ?_
                exact im_iret (q := 113) D270_112 rfl hP
            · replace hP := hP.2 (Decidable.not_not.mp hc57)
              refine im_ld (q := 93) (i := 0) D270_92 rfl rfl rfl ?_
              refine im_iconst (q := 94) D270_93 ?_
              refine im_pfI (q := 97) D270_94 (im_fl cn_270 fl_12_409) sf_6952 rfl rfl ti_12_0 (by decide) ?_
              refine im_iconst (q := 98) D270_97 ?_
              exact im_iret (q := 99) D270_98 rfl hP
        · replace hP := hP.2 (Decidable.not_not.mp hc44)
          refine im_iconst (q := 63) D270_62 ?_
          exact im_iret (q := 64) D270_63 rfl hP
  · replace hP := hP.2 hc2
    refine im_ld (q := 8) (i := 0) D270_7 rfl rfl rfl ?_
    refine im_iconst (q := 9) D270_8 ?_
    refine im_pfI (q := 12) D270_9 (im_fl cn_270 fl_12_409) sf_6952 rfl rfl ti_12_0 (by decide) ?_
    refine im_iconst (q := 13) D270_12 ?_
    exact im_iret (q := 14) D270_13 rfl hP
set_option maxRecDepth 20000 in
set_option maxHeartbeats 4000000 in
theorem b_takeTape_0 {g : im_g} {d : Nat} {e : im_E} {M : im_M} {K : im_K} (hP : im_T g d 271 2 [some (.ref 6952), some (vI 0)] [] e M K) : im_T g d 271 0 [some (.ref 6952), none] [] e M K := by
  refine im_iconst (q := 1) D271_0 ?_
  refine im_st1 (q := 2) (i := 1) (L' := [some (.ref 6952), some (vI 0)]) D271_1 (Or.inl ⟨_, rfl, rfl⟩) (Nat.le_of_ble_eq_true rfl) rfl ?_
  exact hP.wk ⟨rfl, rfl, trivial⟩
set_option maxRecDepth 20000 in
set_option maxHeartbeats 4000000 in
theorem b_takeTape_2 {g : im_g} {d : Nat} {e : im_E} {M : im_M} {K : im_K} {p1 : Int} (hP : (im_i32 p1) ∧ (((M 6952 2) ≤ p1 → K (.inl none) e (im_u (im_u M 6952 13 (M 6952 2)) 6952 2 0)) ∧ (p1 < (M 6952 2) → (0 ≤ p1 ∧ p1 < 16384) ∧ im_T g d 271 2 [some (.ref 6952), some (vI (p1 + 1))] [] e (im_u M 6959 p1 (M 6953 p1)) K))) : im_T g d 271 2 [some (.ref 6952), some (vI p1)] [] e M K := by
  refine im_ld (q := 3) (i := 1) D271_2 rfl rfl rfl ?_
  refine im_ld (q := 4) (i := 0) D271_3 rfl rfl rfl ?_
  refine im_rng (j := 2) sf_6952 (by decide) (by decide) (fun hr1 => ?_)
  refine im_gfI (q := 7) D271_4 (im_fl cn_271 fl_12_416) sf_6952 rfl rfl tI_12_2 rfl ?_
  obtain ⟨hg2, hP⟩ := hP
  refine im_icmp (q := 10) (t := 28) D271_7 rfl hg2 hr1 (fun hc3 => ?_) (fun hc3 => ?_)
  · replace hP := hP.1 hc3
    refine im_ld (q := 29) (i := 0) D271_28 rfl rfl rfl ?_
    refine im_ld (q := 30) (i := 0) D271_29 rfl rfl rfl ?_
    refine im_gfI (q := 33) D271_30 (im_fl cn_271 fl_12_416) sf_6952 rfl rfl tI_12_2 rfl ?_
    refine im_pfI (q := 36) D271_33 (im_fl cn_271 fl_12_604) sf_6952 rfl rfl ti_12_13 hr1 ?_
    refine im_ld (q := 37) (i := 0) D271_36 rfl rfl rfl ?_
    refine im_iconst (q := 38) D271_37 ?_
    refine im_pfI (q := 41) D271_38 (im_fl cn_271 fl_12_416) sf_6952 rfl rfl ti_12_2 (by decide) ?_
    exact im_vret (q := 42) D271_41 rfl hP
  · replace hP := hP.2 (Int.not_le.mp hc3)
    refine im_ld (q := 11) (i := 0) D271_10 rfl rfl rfl ?_
    refine im_gfR (q := 14) (b := 6959) D271_11 (im_fl cn_271 fl_12_30) sf_6952 rfl rfl tR_12_12 rf_6952_12 ?_
    refine im_ld (q := 15) (i := 1) D271_14 rfl rfl rfl ?_
    refine im_ld (q := 16) (i := 0) D271_15 rfl rfl rfl ?_
    refine im_gfR (q := 19) (b := 6953) D271_16 (im_fl cn_271 fl_12_7) sf_6952 rfl rfl tR_12_1 rf_6952_1 ?_
    refine im_ld (q := 20) (i := 1) D271_19 rfl rfl rfl ?_
    obtain ⟨hg5, hP⟩ := hP
    refine im_rng (j := p1) sf_6953 hg5.1 hg5.2 (fun hr6 => ?_)
    refine im_iald (q := 21) D271_20 sf_6953 hg5.1 hg5.2 (by decide) rfl ?_
    refine im_iast (q := 22) D271_21 sf_6959 hg5.1 hg5.2 (by decide) hr6 ?_
    refine im_iinc (q := 25) (i := 1) (L' := [some (.ref 6952), some (vI (p1 + 1))]) D271_22 rfl (Nat.le_of_ble_eq_true rfl) rfl ?_
    refine im_goto (q := 28) (t := 2) D271_25 rfl ?_
    exact hP.wk ⟨rfl, rfl, trivial⟩
set_option maxRecDepth 20000 in
set_option maxHeartbeats 4000000 in
theorem b_tryKeep_0 {g : im_g} {d : Nat} {e : im_E} {M : im_M} {K : im_K} {p1 : Int} (hd : 1 ≤ d) (hP : (im_i32 p1) ∧ im_T g (d - 1) 268 0 [some (vL p1), none, some (vL 0), none, some (vL 15), none] [] e M (im_ri (fun x3 e_ M2 => e = e_ ∧ (im_i32 x3) ∧ ((((¬ x3 = 0 → (0 ≤ p1 ∧ p1 < 16) ∧ (((M2 6984 p1) = 0 → im_T g (d - 1) 273 0 [some (.ref 6952)] [] e M2 (im_r0 (fun  e_ M12 => e = e_ ∧ ((∀ x17 : Int, ((((M12 6952 19) ≤ 0) ∧ ((M12 6952 39) ≤ 4000) ∧ x17 = 0) ∨ (((M12 6952 19) ≤ 0) ∧ (4000 < (M12 6952 39)) ∧ x17 = (-9)) ∨ ((0 < (M12 6952 19)) ∧ x17 = (-1))) → K (.inl (some (vI x17))) e M12))))))))) ∧ ((((x3 = 0)) ∨ ((¬ x3 = 0) ∧ (¬ (M2 6984 p1) = 0))) → K (.inl (some (vI (-101)))) e M2))))) : im_T g d 272 0 [some (.ref 6952), some (vI p1)] [] e M K := by
  refine im_ld (q := 1) (i := 1) D272_0 rfl rfl rfl ?_
  obtain ⟨hg1, hP⟩ := hP
  refine im_i2l (q := 2) D272_1 hg1 ?_
  refine im_lconst (q := 3) (z := 0) D272_2 rfl ?_
  refine im_ldc2 (q := 6) (n := 15) D272_3 rfl ?_
  refine im_callS (q := 9) (kd := 0) (y := 268) (n := 3) (z := 12) (vs := [vL p1, vL 0, vL 15]) (r := []) (L2 := [some (vL p1), none, some (vL 0), none, some (vL 15), none]) D272_6 rfl (im_cal cn_272 cl_12_428) (Or.inl rfl) rfl rfl rfl rfl rfl hd ⟨rfl, rfl, rfl, trivial⟩ ?_
  refine hP.mono ?_
  rintro _ e22 M2 ⟨x3, rfl, rfl, hP⟩
  refine im_bkS ?_
  obtain ⟨hg4, hP⟩ := hP
  obtain ⟨hP, hJ9⟩ := hP
  have kJ10 : (((x3 = 0)) ∨ ((¬ x3 = 0) ∧ (¬ (M2 6984 p1) = 0))) → im_T g d 272 21 [none, none] [] e M2 K := by
    intro  hx11
    have hP := hJ9  hx11
    refine im_bipush (q := 23) D272_21 rfl ?_
    exact im_iret (q := 24) D272_23 rfl hP
  refine im_ifc (q := 12) (t := 21) D272_9 rfl hg4 (fun hc5 => ?_) (fun hc5 => ?_)
  · exact (kJ10  (Or.inl hc5)).wk trivial
  · replace hP := hP hc5
    refine im_ld (q := 13) (i := 0) D272_12 rfl rfl rfl ?_
    refine im_gfR (q := 16) (b := 6984) D272_13 (im_fl cn_272 fl_12_106) sf_6952 rfl rfl tR_12_52 rf_6952_52 ?_
    refine im_ld (q := 17) (i := 1) D272_16 rfl rfl rfl ?_
    obtain ⟨hg6, hP⟩ := hP
    refine im_rng (j := p1) sf_6984 hg6.1 hg6.2 (fun hr7 => ?_)
    refine im_bald (q := 18) D272_17 sf_6984 (Or.inr rfl) hg6.1 hg6.2 (by decide) rfl ?_
    refine im_ifc (q := 21) (t := 24) D272_18 rfl (im_z32 hr7) (fun hc8 => ?_) (fun hc8 => ?_)
    · replace hP := hP hc8
      refine im_ld (q := 25) (i := 0) D272_24 rfl rfl rfl ?_
      refine im_callV (q := 28) (kd := 1) (y := 273) (n := 0) (ci := 12) (a := 6952) (vs := [.ref 6952]) (r := []) (L2 := [some (.ref 6952)]) D272_25 (im_cal cn_272 cl_12_731) (Or.inl rfl) rfl sf_6952 rfl rfl rfl rfl hd ⟨rfl, trivial⟩ ?_
      refine hP.mono ?_
      rintro _ e21 M12 ⟨rfl, rfl, hP⟩
      refine im_bkN ?_
      refine im_ld (q := 29) (i := 0) D272_28 rfl rfl rfl ?_
      refine im_rng (j := 19) sf_6952 (by decide) (by decide) (fun hr13 => ?_)
      refine im_gfI (q := 32) D272_29 (im_fl cn_272 fl_12_403) sf_6952 rfl rfl tI_12_19 rfl ?_
      have hJ18 := hP
      have kJ19 : ∀ x17 : Int, ((((M12 6952 19) ≤ 0) ∧ ((M12 6952 39) ≤ 4000) ∧ x17 = 0) ∨ (((M12 6952 19) ≤ 0) ∧ (4000 < (M12 6952 39)) ∧ x17 = (-9)) ∨ ((0 < (M12 6952 19)) ∧ x17 = (-1))) → im_T g d 272 55 [none, none] [vI x17] e M12 K := by
        intro x17 hx20
        have hP := hJ18 x17 hx20
        exact im_iret (q := 56) D272_55 rfl hP
      refine im_ifc (q := 35) (t := 39) D272_32 rfl hr13 (fun hc14 => ?_) (fun hc14 => ?_)
      · refine im_ld (q := 40) (i := 0) D272_39 rfl rfl rfl ?_
        refine im_rng (j := 39) sf_6952 (by decide) (by decide) (fun hr15 => ?_)
        refine im_gfI (q := 43) D272_40 (im_fl cn_272 fl_12_629) sf_6952 rfl rfl tI_12_39 rfl ?_
        refine im_sipush (q := 46) D272_43 rfl ?_
        refine im_icmp (q := 49) (t := 54) D272_46 rfl hr15 (by decide) (fun hc16 => ?_) (fun hc16 => ?_)
        · refine im_iconst (q := 55) D272_54 ?_
          exact (kJ19 (0) (Or.inl ⟨hc14, hc16, rfl⟩)).wk trivial
        · refine im_bipush (q := 51) D272_49 rfl ?_
          refine im_goto (q := 54) (t := 55) D272_51 rfl ?_
          exact (kJ19 ((-9)) (Or.inr (Or.inl ⟨hc14, (Int.not_le.mp hc16), rfl⟩))).wk trivial
      · refine im_iconst (q := 36) D272_35 ?_
        refine im_goto (q := 39) (t := 55) D272_36 rfl ?_
        exact (kJ19 ((-1)) (Or.inr (Or.inr ⟨(Int.not_le.mp hc14), rfl⟩))).wk trivial
    · exact (kJ10  (Or.inr ⟨hc5, hc8⟩)).wk trivial
set_option maxRecDepth 20000 in
set_option maxHeartbeats 4000000 in
theorem b_readText_0 {g : im_g} {d : Nat} {e : im_E} {M : im_M} {K : im_K} (hd : 1 ≤ d) (hP : im_T g (d - 1) 274 0 [some (.ref 6952)] [] e M (im_r0 (fun  e_ M1 => e = e_ ∧ im_T g (d - 1) 275 0 [some (.ref 6952), some (vI 1), some (vI (-1)), some (vI 0), some (vI 0)] [] e (im_u (im_u (im_u M1 6952 39 (M1 6952 38)) 6952 37 (M1 6952 36)) 6952 45 0) (im_r0 (fun  e_ M4 => e = e_ ∧ im_T g d 273 33 [some (.ref 6952)] [] e M4 K))))) : im_T g d 273 0 [some (.ref 6952)] [] e M K := by
  refine im_ld (q := 1) (i := 0) D273_0 rfl rfl rfl ?_
  refine im_callV (q := 4) (kd := 1) (y := 274) (n := 0) (ci := 12) (a := 6952) (vs := [.ref 6952]) (r := []) (L2 := [some (.ref 6952)]) D273_1 (im_cal cn_273 cl_12_707) (Or.inl rfl) rfl sf_6952 rfl rfl rfl rfl hd ⟨rfl, trivial⟩ ?_
  refine hP.mono ?_
  rintro _ e6 M1 ⟨rfl, rfl, hP⟩
  refine im_bkN ?_
  refine im_ld (q := 5) (i := 0) D273_4 rfl rfl rfl ?_
  refine im_ld (q := 6) (i := 0) D273_5 rfl rfl rfl ?_
  refine im_rng (j := 38) sf_6952 (by decide) (by decide) (fun hr2 => ?_)
  refine im_gfI (q := 9) D273_6 (im_fl cn_273 fl_12_632) sf_6952 rfl rfl tI_12_38 rfl ?_
  refine im_pfI (q := 12) D273_9 (im_fl cn_273 fl_12_629) sf_6952 rfl rfl ti_12_39 hr2 ?_
  refine im_ld (q := 13) (i := 0) D273_12 rfl rfl rfl ?_
  refine im_ld (q := 14) (i := 0) D273_13 rfl rfl rfl ?_
  refine im_rng (j := 36) sf_6952 (by decide) (by decide) (fun hr3 => ?_)
  refine im_gfI (q := 17) D273_14 (im_fl cn_273 fl_12_710) sf_6952 rfl rfl tI_12_36 (im_rdk _ _ _ (by decide)) ?_
  refine im_pfI (q := 20) D273_17 (im_fl cn_273 fl_12_665) sf_6952 rfl rfl ti_12_37 (im_rgc hr3 (im_rdk _ _ _ (by decide))) ?_
  refine im_ld (q := 21) (i := 0) D273_20 rfl rfl rfl ?_
  refine im_iconst (q := 22) D273_21 ?_
  refine im_pfI (q := 25) D273_22 (im_fl cn_273 fl_12_623) sf_6952 rfl rfl ti_12_45 (by decide) ?_
  refine im_ld (q := 26) (i := 0) D273_25 rfl rfl rfl ?_
  refine im_iconst (q := 27) D273_26 ?_
  refine im_iconst (q := 28) D273_27 ?_
  refine im_iconst (q := 29) D273_28 ?_
  refine im_iconst (q := 30) D273_29 ?_
  refine im_callV (q := 33) (kd := 1) (y := 275) (n := 4) (ci := 12) (a := 6952) (vs := [.ref 6952, vI 1, vI (-1), vI 0, vI 0]) (r := []) (L2 := [some (.ref 6952), some (vI 1), some (vI (-1)), some (vI 0), some (vI 0)]) D273_30 (im_cal cn_273 cl_12_652) (Or.inl rfl) rfl sf_6952 rfl rfl rfl rfl hd ⟨rfl, rfl, rfl, rfl, rfl, trivial⟩ ?_
  refine hP.mono ?_
  rintro _ e5 M4 ⟨rfl, rfl, hP⟩
  refine im_bkN ?_
  exact hP.wk ⟨rfl, trivial⟩
set_option maxRecDepth 20000 in
set_option maxHeartbeats 4000000 in
theorem b_readText_33 {g : im_g} {d : Nat} {e : im_E} {M : im_M} {K : im_K} (hd : 1 ≤ d) (hP : ((((0 < (M 6952 45) → (((M 6952 19) = 0 → im_T g (d - 1) 276 0 [some (.ref 6952), none, none, none, none] [] e M (im_r0 (fun  e_ M12 => e = e_ ∧ im_T g d 273 33 [some (.ref 6952)] [] e M12 K))))))) ∧ (((((M 6952 45) ≤ 0)) ∨ ((0 < (M 6952 45)) ∧ (¬ (M 6952 19) = 0))) → ((¬ (M 6952 19) = 0 → K (.inl none) e M) ∧ ((M 6952 19) = 0 → im_T g (d - 1) 306 0 [some (.ref 6952)] [] e M (im_r0 (fun  e_ M10 => e = e_ ∧ K (.inl none) e M10))))))) : im_T g d 273 33 [some (.ref 6952)] [] e M K := by
  refine im_ld (q := 34) (i := 0) D273_33 rfl rfl rfl ?_
  refine im_rng (j := 45) sf_6952 (by decide) (by decide) (fun hr1 => ?_)
  refine im_gfI (q := 37) D273_34 (im_fl cn_273 fl_12_623) sf_6952 rfl rfl tI_12_45 rfl ?_
  obtain ⟨hP, hJ5⟩ := hP
  have kJ6 : ((((M 6952 45) ≤ 0)) ∨ ((0 < (M 6952 45)) ∧ (¬ (M 6952 19) = 0))) → im_T g d 273 54 [some (.ref 6952)] [] e M K := by
    intro  hx7
    have hP := hJ5  hx7
    refine im_ld (q := 55) (i := 0) D273_54 rfl rfl rfl ?_
    refine im_rng (j := 19) sf_6952 (by decide) (by decide) (fun hr8 => ?_)
    refine im_gfI (q := 58) D273_55 (im_fl cn_273 fl_12_403) sf_6952 rfl rfl tI_12_19 rfl ?_
    refine im_ifc (q := 61) (t := 65) D273_58 rfl hr8 (fun hc9 => ?_) (fun hc9 => ?_)
    · replace hP := hP.1 hc9
      exact im_vret (q := 66) D273_65 rfl hP
    · replace hP := hP.2 (Decidable.not_not.mp hc9)
      refine im_ld (q := 62) (i := 0) D273_61 rfl rfl rfl ?_
      refine im_callV (q := 65) (kd := 1) (y := 306) (n := 0) (ci := 12) (a := 6952) (vs := [.ref 6952]) (r := []) (L2 := [some (.ref 6952)]) D273_62 (im_cal cn_273 cl_12_716) (Or.inl rfl) rfl sf_6952 rfl rfl rfl rfl hd ⟨rfl, trivial⟩ ?_
      refine hP.mono ?_
      rintro _ e11 M10 ⟨rfl, rfl, hP⟩
      refine im_bkN ?_
      exact im_vret (q := 66) D273_65 rfl hP
  refine im_ifc (q := 40) (t := 54) D273_37 rfl hr1 (fun hc2 => ?_) (fun hc2 => ?_)
  · exact (kJ6  (Or.inl hc2)).wk ⟨rfl, trivial⟩
  · replace hP := hP (Int.not_le.mp hc2)
    refine im_ld (q := 41) (i := 0) D273_40 rfl rfl rfl ?_
    refine im_rng (j := 19) sf_6952 (by decide) (by decide) (fun hr3 => ?_)
    refine im_gfI (q := 44) D273_41 (im_fl cn_273 fl_12_403) sf_6952 rfl rfl tI_12_19 rfl ?_
    refine im_ifc (q := 47) (t := 54) D273_44 rfl hr3 (fun hc4 => ?_) (fun hc4 => ?_)
    · exact (kJ6  (Or.inr ⟨(Int.not_le.mp hc2), hc4⟩)).wk ⟨rfl, trivial⟩
    · replace hP := hP (Decidable.not_not.mp hc4)
      refine im_ld (q := 48) (i := 0) D273_47 rfl rfl rfl ?_
      refine im_callV (q := 51) (kd := 1) (y := 276) (n := 0) (ci := 12) (a := 6952) (vs := [.ref 6952]) (r := []) (L2 := [some (.ref 6952), none, none, none, none]) D273_48 (im_cal cn_273 cl_12_713) (Or.inl rfl) rfl sf_6952 rfl rfl rfl rfl hd ⟨rfl, trivial⟩ ?_
      refine hP.mono ?_
      rintro _ e13 M12 ⟨rfl, rfl, hP⟩
      refine im_bkN ?_
      refine im_goto (q := 54) (t := 33) D273_51 rfl ?_
      exact hP.wk ⟨rfl, trivial⟩
set_option maxRecDepth 20000 in
set_option maxHeartbeats 4000000 in
theorem b_beginText_0 {g : im_g} {d : Nat} {e : im_E} {M : im_M} {K : im_K} (hP : K (.inl none) e (im_u (im_u (im_u (im_u M 6952 14 0) 6952 19 0) 6952 20 (-1)) 6952 7 (M 6952 6))) : im_T g d 274 0 [some (.ref 6952)] [] e M K := by
  refine im_ld (q := 1) (i := 0) D274_0 rfl rfl rfl ?_
  refine im_iconst (q := 2) D274_1 ?_
  refine im_pfI (q := 5) D274_2 (im_fl cn_274 fl_12_601) sf_6952 rfl rfl ti_12_14 (by decide) ?_
  refine im_ld (q := 6) (i := 0) D274_5 rfl rfl rfl ?_
  refine im_iconst (q := 7) D274_6 ?_
  refine im_pfI (q := 10) D274_7 (im_fl cn_274 fl_12_403) sf_6952 rfl rfl ti_12_19 (by decide) ?_
  refine im_ld (q := 11) (i := 0) D274_10 rfl rfl rfl ?_
  refine im_iconst (q := 12) D274_11 ?_
  refine im_pfI (q := 15) D274_12 (im_fl cn_274 fl_12_406) sf_6952 rfl rfl ti_12_20 (by decide) ?_
  refine im_ld (q := 16) (i := 0) D274_15 rfl rfl rfl ?_
  refine im_ld (q := 17) (i := 0) D274_16 rfl rfl rfl ?_
  refine im_rng (j := 6) sf_6952 (by decide) (by decide) (fun hr1 => ?_)
  refine im_gfI (q := 20) D274_17 (im_fl cn_274 fl_12_617) sf_6952 rfl rfl tI_12_6 ((im_rdk _ _ _ (by decide)).trans ((im_rdk _ _ _ (by decide)).trans (im_rdk _ _ _ (by decide)))) ?_
  refine im_pfI (q := 23) D274_20 (im_fl cn_274 fl_12_449) sf_6952 rfl rfl ti_12_7 (im_rgc hr1 ((im_rdk _ _ _ (by decide)).trans ((im_rdk _ _ _ (by decide)).trans (im_rdk _ _ _ (by decide))))) ?_
  exact im_vret (q := 24) D274_23 rfl hP
set_option maxRecDepth 20000 in
set_option maxHeartbeats 4000000 in
theorem b_push_0 {g : im_g} {d : Nat} {e : im_E} {M : im_M} {K : im_K} {p1 p2 p3 p4 : Int} (hP : (0 ≤ (M 6952 45) ∧ (M 6952 45) < 30000) ∧ (im_i32 p1) ∧ (im_i32 p2) ∧ (im_i32 p3) ∧ (im_i32 p4) ∧ (im_i32 ((M 6952 45) + 1)) ∧ K (.inl none) e (im_u (im_u (im_u (im_u (im_u M 6975 (M 6952 45) p1) 6976 (M 6952 45) p2) 6977 (M 6952 45) p3) 6978 (M 6952 45) p4) 6952 45 ((M 6952 45) + 1))) : im_T g d 275 0 [some (.ref 6952), some (vI p1), some (vI p2), some (vI p3), some (vI p4)] [] e M K := by
  refine im_ld (q := 1) (i := 0) D275_0 rfl rfl rfl ?_
  refine im_gfR (q := 4) (b := 6975) D275_1 (im_fl cn_275 fl_12_79) sf_6952 rfl rfl tR_12_41 rf_6952_41 ?_
  refine im_ld (q := 5) (i := 0) D275_4 rfl rfl rfl ?_
  refine im_rng (j := 45) sf_6952 (by decide) (by decide) (fun hr1 => ?_)
  refine im_gfI (q := 8) D275_5 (im_fl cn_275 fl_12_623) sf_6952 rfl rfl tI_12_45 rfl ?_
  refine im_ld (q := 9) (i := 1) D275_8 rfl rfl rfl ?_
  obtain ⟨hg2, hP⟩ := hP
  obtain ⟨hg3, hP⟩ := hP
  refine im_iast (q := 10) D275_9 sf_6975 hg2.1 hg2.2 (by decide) hg3 ?_
  refine im_ld (q := 11) (i := 0) D275_10 rfl rfl rfl ?_
  refine im_gfR (q := 14) (b := 6976) D275_11 (im_fl cn_275 fl_12_82) sf_6952 rfl rfl tR_12_42 rf_6952_42 ?_
  refine im_ld (q := 15) (i := 0) D275_14 rfl rfl rfl ?_
  refine im_gfI (q := 18) D275_15 (im_fl cn_275 fl_12_623) sf_6952 rfl rfl tI_12_45 (im_rdn _ _ _ _ (by decide)) ?_
  refine im_ld (q := 19) (i := 2) D275_18 rfl rfl rfl ?_
  obtain ⟨hg5, hP⟩ := hP
  refine im_iast (q := 20) D275_19 sf_6976 hg2.1 hg2.2 (by decide) hg5 ?_
  refine im_ld (q := 21) (i := 0) D275_20 rfl rfl rfl ?_
  refine im_gfR (q := 24) (b := 6977) D275_21 (im_fl cn_275 fl_12_85) sf_6952 rfl rfl tR_12_43 rf_6952_43 ?_
  refine im_ld (q := 25) (i := 0) D275_24 rfl rfl rfl ?_
  refine im_gfI (q := 28) D275_25 (im_fl cn_275 fl_12_623) sf_6952 rfl rfl tI_12_45 ((im_rdn _ _ _ _ (by decide)).trans (im_rdn _ _ _ _ (by decide))) ?_
  refine im_ld (q := 29) (i := 3) D275_28 rfl rfl rfl ?_
  obtain ⟨hg7, hP⟩ := hP
  refine im_iast (q := 30) D275_29 sf_6977 hg2.1 hg2.2 (by decide) hg7 ?_
  refine im_ld (q := 31) (i := 0) D275_30 rfl rfl rfl ?_
  refine im_gfR (q := 34) (b := 6978) D275_31 (im_fl cn_275 fl_12_88) sf_6952 rfl rfl tR_12_44 rf_6952_44 ?_
  refine im_ld (q := 35) (i := 0) D275_34 rfl rfl rfl ?_
  refine im_gfI (q := 38) D275_35 (im_fl cn_275 fl_12_623) sf_6952 rfl rfl tI_12_45 ((im_rdn _ _ _ _ (by decide)).trans ((im_rdn _ _ _ _ (by decide)).trans (im_rdn _ _ _ _ (by decide)))) ?_
  refine im_ld (q := 40) (i := 4) D275_38 rfl rfl rfl ?_
  obtain ⟨hg9, hP⟩ := hP
  refine im_iast (q := 41) D275_40 sf_6978 hg2.1 hg2.2 (by decide) hg9 ?_
  refine im_ld (q := 42) (i := 0) D275_41 rfl rfl rfl ?_
  refine im_dup (q := 43) D275_42 rfl ?_
  refine im_gfI (q := 46) D275_43 (im_fl cn_275 fl_12_623) sf_6952 rfl rfl tI_12_45 ((im_rdn _ _ _ _ (by decide)).trans ((im_rdn _ _ _ _ (by decide)).trans ((im_rdn _ _ _ _ (by decide)).trans (im_rdn _ _ _ _ (by decide))))) ?_
  refine im_iconst (q := 47) D275_46 ?_
  refine im_iadd (q := 48) D275_47 ?_
  obtain ⟨hg11, hP⟩ := hP
  refine im_pfI (q := 51) D275_48 (im_fl cn_275 fl_12_623) sf_6952 rfl rfl ti_12_45 hg11 ?_
  exact im_vret (q := 52) D275_51 rfl hP
set_option maxRecDepth 20000 in
set_option maxHeartbeats 4000000 in
theorem b_readNext_0 {g : im_g} {d : Nat} {e : im_E} {M : im_M} {K : im_K} (hd : 1 ≤ d) (hP : (im_i32 ((M 6952 45) - 1)) ∧ (0 ≤ ((M 6952 45) - 1) ∧ ((M 6952 45) - 1) < 30000) ∧ im_T g (d - 1) 277 0 [some (.ref 6952), none] [] e (im_u M 6952 45 ((M 6952 45) - 1)) (im_r0 (fun  e_ M12 => e = e_ ∧ (((((M 6975 ((M 6952 45) - 1)) ≤ 3 → (((M12 6952 15) = 5 → im_T g (d - 1) 282 0 [some (.ref 6952)] [] e M12 (im_r0 (fun  e_ M49 => e = e_ ∧ im_T g (d - 1) 275 0 [some (.ref 6952), some (vI 5), some (vI (-1)), some (vI 0), some (vI 0)] [] e M49 (im_r0 (fun  e_ M50 => e = e_ ∧ im_T g (d - 1) 275 0 [some (.ref 6952), some (vI (M 6975 ((M 6952 45) - 1))), some (vI (M 6976 ((M 6952 45) - 1))), some (vI (M 6977 ((M 6952 45) - 1))), some (vI (M 6978 ((M 6952 45) - 1)))] [] e M50 (im_r0 (fun  e_ M51 => e = e_ ∧ K (.inl none) e M51))))))))))) ∧ ((((3 < (M 6975 ((M 6952 45) - 1)))) ∨ (((M 6975 ((M 6952 45) - 1)) ≤ 3) ∧ (¬ (M12 6952 15) = 5))) → (((M 6975 ((M 6952 45) - 1)) = 1 → im_T g (d - 1) 283 0 [some (.ref 6952), some (vI (M 6976 ((M 6952 45) - 1))), some (vI (M 6977 ((M 6952 45) - 1))), some (vI (M 6978 ((M 6952 45) - 1))), none, none] [] e M12 (im_r0 (fun  e_ M19 => e = e_ ∧ K (.inl none) e M19))) ∧ ((M 6975 ((M 6952 45) - 1)) = 2 → im_T g (d - 1) 289 0 [some (.ref 6952), some (vI (M 6976 ((M 6952 45) - 1))), some (vI (M 6977 ((M 6952 45) - 1))), some (vI (M 6978 ((M 6952 45) - 1))), none, none] [] e M12 (im_r0 (fun  e_ M22 => e = e_ ∧ K (.inl none) e M22))) ∧ ((M 6975 ((M 6952 45) - 1)) = 3 → im_T g (d - 1) 293 0 [some (.ref 6952), some (vI (M 6976 ((M 6952 45) - 1))), some (vI (M 6977 ((M 6952 45) - 1))), some (vI (M 6978 ((M 6952 45) - 1))), none, none] [] e M12 (im_r0 (fun  e_ M25 => e = e_ ∧ K (.inl none) e M25))) ∧ ((M 6975 ((M 6952 45) - 1)) = 4 → im_T g (d - 1) 295 0 [some (.ref 6952), some (vI (M 6976 ((M 6952 45) - 1))), some (vI (M 6977 ((M 6952 45) - 1)))] [] e M12 (im_r0 (fun  e_ M28 => e = e_ ∧ K (.inl none) e M28))) ∧ ((M 6975 ((M 6952 45) - 1)) = 8 → im_T g (d - 1) 296 0 [some (.ref 6952), some (vI (M 6976 ((M 6952 45) - 1))), some (vI (M 6977 ((M 6952 45) - 1))), some (vI (M 6978 ((M 6952 45) - 1))), none] [] e M12 (im_r0 (fun  e_ M31 => e = e_ ∧ K (.inl none) e M31))) ∧ ((M 6975 ((M 6952 45) - 1)) = 9 → im_T g (d - 1) 297 0 [some (.ref 6952), some (vI (M 6976 ((M 6952 45) - 1))), none, none, none] [] e M12 (im_r0 (fun  e_ M34 => e = e_ ∧ K (.inl none) e M34))) ∧ ((M 6975 ((M 6952 45) - 1)) = 10 → im_T g (d - 1) 299 0 [some (.ref 6952), some (vI (M 6976 ((M 6952 45) - 1))), some (vI (M 6978 ((M 6952 45) - 1))), none] [] e M12 (im_r0 (fun  e_ M37 => e = e_ ∧ K (.inl none) e M37))) ∧ ((M 6975 ((M 6952 45) - 1)) = 12 → im_T g (d - 1) 300 0 [some (.ref 6952), some (vI (M 6976 ((M 6952 45) - 1))), some (vI (M 6977 ((M 6952 45) - 1)))] [] e M12 (im_r0 (fun  e_ M40 => e = e_ ∧ K (.inl none) e M40))) ∧ ((M 6975 ((M 6952 45) - 1)) = 13 → im_T g (d - 1) 301 0 [some (.ref 6952), some (vI (M 6976 ((M 6952 45) - 1))), some (vI (M 6977 ((M 6952 45) - 1)))] [] e M12 (im_r0 (fun  e_ M43 => e = e_ ∧ K (.inl none) e M43))) ∧ ((M 6975 ((M 6952 45) - 1)) < 1 ∨ 13 < (M 6975 ((M 6952 45) - 1)) ∨ (M 6975 ((M 6952 45) - 1)) = 5 ∨ (M 6975 ((M 6952 45) - 1)) = 6 ∨ (M 6975 ((M 6952 45) - 1)) = 7 ∨ (M 6975 ((M 6952 45) - 1)) = 11 → im_T g (d - 1) 305 0 [some (.ref 6952), some (vI (M 6975 ((M 6952 45) - 1))), some (vI (M 6976 ((M 6952 45) - 1))), none, none] [] e M12 (im_r0 (fun  e_ M46 => e = e_ ∧ K (.inl none) e M46))))))))) : im_T g d 276 0 [some (.ref 6952), none, none, none, none] [] e M K := by
  refine im_ld (q := 1) (i := 0) D276_0 rfl rfl rfl ?_
  refine im_dup (q := 2) D276_1 rfl ?_
  refine im_rng (j := 45) sf_6952 (by decide) (by decide) (fun hr1 => ?_)
  refine im_gfI (q := 5) D276_2 (im_fl cn_276 fl_12_623) sf_6952 rfl rfl tI_12_45 rfl ?_
  refine im_iconst (q := 6) D276_5 ?_
  refine im_isub (q := 7) D276_6 ?_
  obtain ⟨hg2, hP⟩ := hP
  refine im_pfI (q := 10) D276_7 (im_fl cn_276 fl_12_623) sf_6952 rfl rfl ti_12_45 hg2 ?_
  refine im_ld (q := 11) (i := 0) D276_10 rfl rfl rfl ?_
  refine im_gfR (q := 14) (b := 6975) D276_11 (im_fl cn_276 fl_12_79) sf_6952 rfl rfl tR_12_41 rf_6952_41 ?_
  refine im_ld (q := 15) (i := 0) D276_14 rfl rfl rfl ?_
  refine im_gfI (q := 18) D276_15 (im_fl cn_276 fl_12_623) sf_6952 rfl rfl tI_12_45 (im_rds _ _ _ _) ?_
  obtain ⟨hg4, hP⟩ := hP
  refine im_rng (j := ((M 6952 45) - 1)) sf_6975 hg4.1 hg4.2 (fun hr5 => ?_)
  refine im_iald (q := 19) D276_18 sf_6975 hg4.1 hg4.2 (by decide) (im_rdn _ _ _ _ (by decide)) ?_
  refine im_st1 (q := 20) (i := 1) (L' := [some (.ref 6952), some (vI (M 6975 ((M 6952 45) - 1))), none, none, none]) D276_19 (Or.inl ⟨_, rfl, rfl⟩) (Nat.le_of_ble_eq_true rfl) rfl ?_
  refine im_ld (q := 21) (i := 0) D276_20 rfl rfl rfl ?_
  refine im_gfR (q := 24) (b := 6976) D276_21 (im_fl cn_276 fl_12_82) sf_6952 rfl rfl tR_12_42 rf_6952_42 ?_
  refine im_ld (q := 25) (i := 0) D276_24 rfl rfl rfl ?_
  refine im_gfI (q := 28) D276_25 (im_fl cn_276 fl_12_623) sf_6952 rfl rfl tI_12_45 (im_rds _ _ _ _) ?_
  refine im_rng (j := ((M 6952 45) - 1)) sf_6976 hg4.1 hg4.2 (fun hr7 => ?_)
  refine im_iald (q := 29) D276_28 sf_6976 hg4.1 hg4.2 (by decide) (im_rdn _ _ _ _ (by decide)) ?_
  refine im_st1 (q := 30) (i := 2) (L' := [some (.ref 6952), some (vI (M 6975 ((M 6952 45) - 1))), some (vI (M 6976 ((M 6952 45) - 1))), none, none]) D276_29 (Or.inl ⟨_, rfl, rfl⟩) (Nat.le_of_ble_eq_true rfl) rfl ?_
  refine im_ld (q := 31) (i := 0) D276_30 rfl rfl rfl ?_
  refine im_gfR (q := 34) (b := 6977) D276_31 (im_fl cn_276 fl_12_85) sf_6952 rfl rfl tR_12_43 rf_6952_43 ?_
  refine im_ld (q := 35) (i := 0) D276_34 rfl rfl rfl ?_
  refine im_gfI (q := 38) D276_35 (im_fl cn_276 fl_12_623) sf_6952 rfl rfl tI_12_45 (im_rds _ _ _ _) ?_
  refine im_rng (j := ((M 6952 45) - 1)) sf_6977 hg4.1 hg4.2 (fun hr9 => ?_)
  refine im_iald (q := 39) D276_38 sf_6977 hg4.1 hg4.2 (by decide) (im_rdn _ _ _ _ (by decide)) ?_
  refine im_st1 (q := 40) (i := 3) (L' := [some (.ref 6952), some (vI (M 6975 ((M 6952 45) - 1))), some (vI (M 6976 ((M 6952 45) - 1))), some (vI (M 6977 ((M 6952 45) - 1))), none]) D276_39 (Or.inl ⟨_, rfl, rfl⟩) (Nat.le_of_ble_eq_true rfl) rfl ?_
  refine im_ld (q := 41) (i := 0) D276_40 rfl rfl rfl ?_
  refine im_gfR (q := 44) (b := 6978) D276_41 (im_fl cn_276 fl_12_88) sf_6952 rfl rfl tR_12_44 rf_6952_44 ?_
  refine im_ld (q := 45) (i := 0) D276_44 rfl rfl rfl ?_
  refine im_gfI (q := 48) D276_45 (im_fl cn_276 fl_12_623) sf_6952 rfl rfl tI_12_45 (im_rds _ _ _ _) ?_
  refine im_rng (j := ((M 6952 45) - 1)) sf_6978 hg4.1 hg4.2 (fun hr11 => ?_)
  refine im_iald (q := 49) D276_48 sf_6978 hg4.1 hg4.2 (by decide) (im_rdn _ _ _ _ (by decide)) ?_
  refine im_st1 (q := 51) (i := 4) (L' := [some (.ref 6952), some (vI (M 6975 ((M 6952 45) - 1))), some (vI (M 6976 ((M 6952 45) - 1))), some (vI (M 6977 ((M 6952 45) - 1))), some (vI (M 6978 ((M 6952 45) - 1)))]) D276_49 (Or.inr rfl) (Nat.le_of_ble_eq_true rfl) rfl ?_
  refine im_ld (q := 52) (i := 0) D276_51 rfl rfl rfl ?_
  refine im_callV (q := 55) (kd := 1) (y := 277) (n := 0) (ci := 12) (a := 6952) (vs := [.ref 6952]) (r := []) (L2 := [some (.ref 6952), none]) D276_52 (im_cal cn_276 cl_12_620) (Or.inl rfl) rfl sf_6952 rfl rfl rfl rfl hd ⟨rfl, trivial⟩ ?_
  refine hP.mono ?_
  rintro _ e55 M12 ⟨rfl, rfl, hP⟩
  refine im_bkN ?_
  refine im_ld (q := 56) (i := 1) D276_55 rfl rfl rfl ?_
  refine im_iconst (q := 57) D276_56 ?_
  obtain ⟨hP, hJ16⟩ := hP
  have kJ17 : (((3 < (M 6975 ((M 6952 45) - 1)))) ∨ (((M 6975 ((M 6952 45) - 1)) ≤ 3) ∧ (¬ (M12 6952 15) = 5))) → im_T g d 276 90 [some (.ref 6952), some (vI (M 6975 ((M 6952 45) - 1))), some (vI (M 6976 ((M 6952 45) - 1))), some (vI (M 6977 ((M 6952 45) - 1))), some (vI (M 6978 ((M 6952 45) - 1)))] [] e M12 K := by
    intro  hx18
    have hP := hJ16  hx18
    refine im_ld (q := 91) (i := 1) D276_90 rfl rfl rfl ?_
    by_cases hc21 : (M 6975 ((M 6952 45) - 1)) = 1
    · refine im_tsw (q := 92) (t := 156) D276_91 (im_rgc hr5 (im_rdn _ _ _ _ (by decide))) (fun _ => by rcases hc21 with hc21 <;> (rw [hc21]; rfl)) (by rcases hc21 with hc21 <;> (rw [hc21]; rfl)) ?_
      replace hP := hP.1 hc21
      refine im_ld (q := 157) (i := 0) D276_156 rfl rfl rfl ?_
      refine im_ld (q := 158) (i := 2) D276_157 rfl rfl rfl ?_
      refine im_ld (q := 159) (i := 3) D276_158 rfl rfl rfl ?_
      refine im_ld (q := 161) (i := 4) D276_159 rfl rfl rfl ?_
      refine im_callV (q := 164) (kd := 1) (y := 283) (n := 3) (ci := 12) (a := 6952) (vs := [.ref 6952, vI (M 6976 ((M 6952 45) - 1)), vI (M 6977 ((M 6952 45) - 1)), vI (M 6978 ((M 6952 45) - 1))]) (r := []) (L2 := [some (.ref 6952), some (vI (M 6976 ((M 6952 45) - 1))), some (vI (M 6977 ((M 6952 45) - 1))), some (vI (M 6978 ((M 6952 45) - 1))), none, none]) D276_161 (im_cal cn_276 cl_12_677) (Or.inl rfl) rfl sf_6952 rfl rfl rfl rfl hd ⟨rfl, rfl, rfl, rfl, trivial⟩ ?_
      refine hP.mono ?_
      rintro _ e20 M19 ⟨rfl, rfl, hP⟩
      refine im_bkN ?_
      refine im_goto (q := 167) (t := 251) D276_164 rfl ?_
      exact im_vret (q := 252) D276_251 rfl hP
    by_cases hc24 : (M 6975 ((M 6952 45) - 1)) = 2
    · refine im_tsw (q := 92) (t := 167) D276_91 (im_rgc hr5 (im_rdn _ _ _ _ (by decide))) (fun _ => by rcases hc24 with hc24 <;> (rw [hc24]; rfl)) (by rcases hc24 with hc24 <;> (rw [hc24]; rfl)) ?_
      replace hP := hP.2.1 hc24
      refine im_ld (q := 168) (i := 0) D276_167 rfl rfl rfl ?_
      refine im_ld (q := 169) (i := 2) D276_168 rfl rfl rfl ?_
      refine im_ld (q := 170) (i := 3) D276_169 rfl rfl rfl ?_
      refine im_ld (q := 172) (i := 4) D276_170 rfl rfl rfl ?_
      refine im_callV (q := 175) (kd := 1) (y := 289) (n := 3) (ci := 12) (a := 6952) (vs := [.ref 6952, vI (M 6976 ((M 6952 45) - 1)), vI (M 6977 ((M 6952 45) - 1)), vI (M 6978 ((M 6952 45) - 1))]) (r := []) (L2 := [some (.ref 6952), some (vI (M 6976 ((M 6952 45) - 1))), some (vI (M 6977 ((M 6952 45) - 1))), some (vI (M 6978 ((M 6952 45) - 1))), none, none]) D276_172 (im_cal cn_276 cl_12_680) (Or.inl rfl) rfl sf_6952 rfl rfl rfl rfl hd ⟨rfl, rfl, rfl, rfl, trivial⟩ ?_
      refine hP.mono ?_
      rintro _ e23 M22 ⟨rfl, rfl, hP⟩
      refine im_bkN ?_
      refine im_goto (q := 178) (t := 251) D276_175 rfl ?_
      exact im_vret (q := 252) D276_251 rfl hP
    by_cases hc27 : (M 6975 ((M 6952 45) - 1)) = 3
    · refine im_tsw (q := 92) (t := 178) D276_91 (im_rgc hr5 (im_rdn _ _ _ _ (by decide))) (fun _ => by rcases hc27 with hc27 <;> (rw [hc27]; rfl)) (by rcases hc27 with hc27 <;> (rw [hc27]; rfl)) ?_
      replace hP := hP.2.2.1 hc27
      refine im_ld (q := 179) (i := 0) D276_178 rfl rfl rfl ?_
      refine im_ld (q := 180) (i := 2) D276_179 rfl rfl rfl ?_
      refine im_ld (q := 181) (i := 3) D276_180 rfl rfl rfl ?_
      refine im_ld (q := 183) (i := 4) D276_181 rfl rfl rfl ?_
      refine im_callV (q := 186) (kd := 1) (y := 293) (n := 3) (ci := 12) (a := 6952) (vs := [.ref 6952, vI (M 6976 ((M 6952 45) - 1)), vI (M 6977 ((M 6952 45) - 1)), vI (M 6978 ((M 6952 45) - 1))]) (r := []) (L2 := [some (.ref 6952), some (vI (M 6976 ((M 6952 45) - 1))), some (vI (M 6977 ((M 6952 45) - 1))), some (vI (M 6978 ((M 6952 45) - 1))), none, none]) D276_183 (im_cal cn_276 cl_12_683) (Or.inl rfl) rfl sf_6952 rfl rfl rfl rfl hd ⟨rfl, rfl, rfl, rfl, trivial⟩ ?_
      refine hP.mono ?_
      rintro _ e26 M25 ⟨rfl, rfl, hP⟩
      refine im_bkN ?_
      refine im_goto (q := 189) (t := 251) D276_186 rfl ?_
      exact im_vret (q := 252) D276_251 rfl hP
    by_cases hc30 : (M 6975 ((M 6952 45) - 1)) = 4
    · refine im_tsw (q := 92) (t := 189) D276_91 (im_rgc hr5 (im_rdn _ _ _ _ (by decide))) (fun _ => by rcases hc30 with hc30 <;> (rw [hc30]; rfl)) (by rcases hc30 with hc30 <;> (rw [hc30]; rfl)) ?_
      replace hP := hP.2.2.2.1 hc30
      refine im_ld (q := 190) (i := 0) D276_189 rfl rfl rfl ?_
      refine im_ld (q := 191) (i := 2) D276_190 rfl rfl rfl ?_
      refine im_ld (q := 192) (i := 3) D276_191 rfl rfl rfl ?_
      refine im_callV (q := 195) (kd := 1) (y := 295) (n := 2) (ci := 12) (a := 6952) (vs := [.ref 6952, vI (M 6976 ((M 6952 45) - 1)), vI (M 6977 ((M 6952 45) - 1))]) (r := []) (L2 := [some (.ref 6952), some (vI (M 6976 ((M 6952 45) - 1))), some (vI (M 6977 ((M 6952 45) - 1)))]) D276_192 (im_cal cn_276 cl_12_686) (Or.inl rfl) rfl sf_6952 rfl rfl rfl rfl hd ⟨rfl, rfl, rfl, trivial⟩ ?_
      refine hP.mono ?_
      rintro _ e29 M28 ⟨rfl, rfl, hP⟩
      refine im_bkN ?_
      refine im_goto (q := 198) (t := 251) D276_195 rfl ?_
      exact im_vret (q := 252) D276_251 rfl hP
    by_cases hc33 : (M 6975 ((M 6952 45) - 1)) = 8
    · refine im_tsw (q := 92) (t := 198) D276_91 (im_rgc hr5 (im_rdn _ _ _ _ (by decide))) (fun _ => by rcases hc33 with hc33 <;> (rw [hc33]; rfl)) (by rcases hc33 with hc33 <;> (rw [hc33]; rfl)) ?_
      replace hP := hP.2.2.2.2.1 hc33
      refine im_ld (q := 199) (i := 0) D276_198 rfl rfl rfl ?_
      refine im_ld (q := 200) (i := 2) D276_199 rfl rfl rfl ?_
      refine im_ld (q := 201) (i := 3) D276_200 rfl rfl rfl ?_
      refine im_ld (q := 203) (i := 4) D276_201 rfl rfl rfl ?_
      refine im_callV (q := 206) (kd := 1) (y := 296) (n := 3) (ci := 12) (a := 6952) (vs := [.ref 6952, vI (M 6976 ((M 6952 45) - 1)), vI (M 6977 ((M 6952 45) - 1)), vI (M 6978 ((M 6952 45) - 1))]) (r := []) (L2 := [some (.ref 6952), some (vI (M 6976 ((M 6952 45) - 1))), some (vI (M 6977 ((M 6952 45) - 1))), some (vI (M 6978 ((M 6952 45) - 1))), none]) D276_203 (im_cal cn_276 cl_12_689) (Or.inl rfl) rfl sf_6952 rfl rfl rfl rfl hd ⟨rfl, rfl, rfl, rfl, trivial⟩ ?_
      refine hP.mono ?_
      rintro _ e32 M31 ⟨rfl, rfl, hP⟩
      refine im_bkN ?_
      refine im_goto (q := 209) (t := 251) D276_206 rfl ?_
      exact im_vret (q := 252) D276_251 rfl hP
    by_cases hc36 : (M 6975 ((M 6952 45) - 1)) = 9
    · refine im_tsw (q := 92) (t := 209) D276_91 (im_rgc hr5 (im_rdn _ _ _ _ (by decide))) (fun _ => by rcases hc36 with hc36 <;> (rw [hc36]; rfl)) (by rcases hc36 with hc36 <;> (rw [hc36]; rfl)) ?_
      replace hP := hP.2.2.2.2.2.1 hc36
      refine im_ld (q := 210) (i := 0) D276_209 rfl rfl rfl ?_
      refine im_ld (q := 211) (i := 2) D276_210 rfl rfl rfl ?_
      refine im_callV (q := 214) (kd := 1) (y := 297) (n := 1) (ci := 12) (a := 6952) (vs := [.ref 6952, vI (M 6976 ((M 6952 45) - 1))]) (r := []) (L2 := [some (.ref 6952), some (vI (M 6976 ((M 6952 45) - 1))), none, none, none]) D276_211 (im_cal cn_276 cl_12_692) (Or.inl rfl) rfl sf_6952 rfl rfl rfl rfl hd ⟨rfl, rfl, trivial⟩ ?_
      refine hP.mono ?_
      rintro _ e35 M34 ⟨rfl, rfl, hP⟩
      refine im_bkN ?_
      refine im_goto (q := 217) (t := 251) D276_214 rfl ?_
      exact im_vret (q := 252) D276_251 rfl hP
    by_cases hc39 : (M 6975 ((M 6952 45) - 1)) = 10
    · refine im_tsw (q := 92) (t := 217) D276_91 (im_rgc hr5 (im_rdn _ _ _ _ (by decide))) (fun _ => by rcases hc39 with hc39 <;> (rw [hc39]; rfl)) (by rcases hc39 with hc39 <;> (rw [hc39]; rfl)) ?_
      replace hP := hP.2.2.2.2.2.2.1 hc39
      refine im_ld (q := 218) (i := 0) D276_217 rfl rfl rfl ?_
      refine im_ld (q := 219) (i := 2) D276_218 rfl rfl rfl ?_
      refine im_ld (q := 221) (i := 4) D276_219 rfl rfl rfl ?_
      refine im_callV (q := 224) (kd := 1) (y := 299) (n := 2) (ci := 12) (a := 6952) (vs := [.ref 6952, vI (M 6976 ((M 6952 45) - 1)), vI (M 6978 ((M 6952 45) - 1))]) (r := []) (L2 := [some (.ref 6952), some (vI (M 6976 ((M 6952 45) - 1))), some (vI (M 6978 ((M 6952 45) - 1))), none]) D276_221 (im_cal cn_276 cl_12_695) (Or.inl rfl) rfl sf_6952 rfl rfl rfl rfl hd ⟨rfl, rfl, rfl, trivial⟩ ?_
      refine hP.mono ?_
      rintro _ e38 M37 ⟨rfl, rfl, hP⟩
      refine im_bkN ?_
      refine im_goto (q := 227) (t := 251) D276_224 rfl ?_
      exact im_vret (q := 252) D276_251 rfl hP
    by_cases hc42 : (M 6975 ((M 6952 45) - 1)) = 12
    · refine im_tsw (q := 92) (t := 227) D276_91 (im_rgc hr5 (im_rdn _ _ _ _ (by decide))) (fun _ => by rcases hc42 with hc42 <;> (rw [hc42]; rfl)) (by rcases hc42 with hc42 <;> (rw [hc42]; rfl)) ?_
      replace hP := hP.2.2.2.2.2.2.2.1 hc42
      refine im_ld (q := 228) (i := 0) D276_227 rfl rfl rfl ?_
      refine im_ld (q := 229) (i := 2) D276_228 rfl rfl rfl ?_
      refine im_ld (q := 230) (i := 3) D276_229 rfl rfl rfl ?_
      refine im_callV (q := 233) (kd := 1) (y := 300) (n := 2) (ci := 12) (a := 6952) (vs := [.ref 6952, vI (M 6976 ((M 6952 45) - 1)), vI (M 6977 ((M 6952 45) - 1))]) (r := []) (L2 := [some (.ref 6952), some (vI (M 6976 ((M 6952 45) - 1))), some (vI (M 6977 ((M 6952 45) - 1)))]) D276_230 (im_cal cn_276 cl_12_698) (Or.inl rfl) rfl sf_6952 rfl rfl rfl rfl hd ⟨rfl, rfl, rfl, trivial⟩ ?_
      refine hP.mono ?_
      rintro _ e41 M40 ⟨rfl, rfl, hP⟩
      refine im_bkN ?_
      refine im_goto (q := 236) (t := 251) D276_233 rfl ?_
      exact im_vret (q := 252) D276_251 rfl hP
    by_cases hc45 : (M 6975 ((M 6952 45) - 1)) = 13
    · refine im_tsw (q := 92) (t := 236) D276_91 (im_rgc hr5 (im_rdn _ _ _ _ (by decide))) (fun _ => by rcases hc45 with hc45 <;> (rw [hc45]; rfl)) (by rcases hc45 with hc45 <;> (rw [hc45]; rfl)) ?_
      replace hP := hP.2.2.2.2.2.2.2.2.1 hc45
      refine im_ld (q := 237) (i := 0) D276_236 rfl rfl rfl ?_
      refine im_ld (q := 238) (i := 2) D276_237 rfl rfl rfl ?_
      refine im_ld (q := 239) (i := 3) D276_238 rfl rfl rfl ?_
      refine im_callV (q := 242) (kd := 1) (y := 301) (n := 2) (ci := 12) (a := 6952) (vs := [.ref 6952, vI (M 6976 ((M 6952 45) - 1)), vI (M 6977 ((M 6952 45) - 1))]) (r := []) (L2 := [some (.ref 6952), some (vI (M 6976 ((M 6952 45) - 1))), some (vI (M 6977 ((M 6952 45) - 1)))]) D276_239 (im_cal cn_276 cl_12_701) (Or.inl rfl) rfl sf_6952 rfl rfl rfl rfl hd ⟨rfl, rfl, rfl, trivial⟩ ?_
      refine hP.mono ?_
      rintro _ e44 M43 ⟨rfl, rfl, hP⟩
      refine im_bkN ?_
      refine im_goto (q := 245) (t := 251) D276_242 rfl ?_
      exact im_vret (q := 252) D276_251 rfl hP
    have hd48 : (M 6975 ((M 6952 45) - 1)) < 1 ∨ 13 < (M 6975 ((M 6952 45) - 1)) ∨ (M 6975 ((M 6952 45) - 1)) = 5 ∨ (M 6975 ((M 6952 45) - 1)) = 6 ∨ (M 6975 ((M 6952 45) - 1)) = 7 ∨ (M 6975 ((M 6952 45) - 1)) = 11 := by omega
    refine im_tsw (q := 92) (t := 245) D276_91 (im_rgc hr5 (im_rdn _ _ _ _ (by decide))) ?_ ?_ ?_
    · intro z9
      have z8 : (M 6975 ((M 6952 45) - 1)) = 5 ∨ (M 6975 ((M 6952 45) - 1)) = 6 ∨ (M 6975 ((M 6952 45) - 1)) = 7 ∨ (M 6975 ((M 6952 45) - 1)) = 11 := by omega
      rcases z8 with z8 | z8 | z8 | z8 <;> (rw [z8]; rfl)
    · rcases hd48 with z8 | z8 | z8 | z8 | z8 | z8
      · rw [if_pos (Or.inl z8)]; rfl
      · rw [if_pos (Or.inr z8)]; rfl
      · rw [z8]; rfl
      · rw [z8]; rfl
      · rw [z8]; rfl
      · rw [z8]; rfl
    replace hP := hP.2.2.2.2.2.2.2.2.2 hd48
    refine im_ld (q := 246) (i := 0) D276_245 rfl rfl rfl ?_
    refine im_ld (q := 247) (i := 1) D276_246 rfl rfl rfl ?_
    refine im_ld (q := 248) (i := 2) D276_247 rfl rfl rfl ?_
    refine im_callV (q := 251) (kd := 1) (y := 305) (n := 2) (ci := 12) (a := 6952) (vs := [.ref 6952, vI (M 6975 ((M 6952 45) - 1)), vI (M 6976 ((M 6952 45) - 1))]) (r := []) (L2 := [some (.ref 6952), some (vI (M 6975 ((M 6952 45) - 1))), some (vI (M 6976 ((M 6952 45) - 1))), none, none]) D276_248 (im_cal cn_276 cl_12_704) (Or.inl rfl) rfl sf_6952 rfl rfl rfl rfl hd ⟨rfl, rfl, rfl, trivial⟩ ?_
    refine hP.mono ?_
    rintro _ e47 M46 ⟨rfl, rfl, hP⟩
    refine im_bkN ?_
    exact im_vret (q := 252) D276_251 rfl hP
  refine im_icmp (q := 60) (t := 90) D276_57 rfl (im_rgc hr5 (im_rdn _ _ _ _ (by decide))) (by decide) (fun hc13 => ?_) (fun hc13 => ?_)
  · exact (kJ17  (Or.inl hc13)).wk ⟨rfl, rfl, rfl, rfl, rfl, trivial⟩
  · replace hP := hP (Int.not_lt.mp hc13)
    refine im_ld (q := 61) (i := 0) D276_60 rfl rfl rfl ?_
    refine im_rng (j := 15) sf_6952 (by decide) (by decide) (fun hr14 => ?_)
    refine im_gfI (q := 64) D276_61 (im_fl cn_276 fl_12_591) sf_6952 rfl rfl tI_12_15 rfl ?_
    refine im_iconst (q := 65) D276_64 ?_
    refine im_icmp (q := 68) (t := 90) D276_65 rfl hr14 (by decide) (fun hc15 => ?_) (fun hc15 => ?_)
    · exact (kJ17  (Or.inr ⟨(Int.not_lt.mp hc13), hc15⟩)).wk ⟨rfl, rfl, rfl, rfl, rfl, trivial⟩
    · replace hP := hP (Decidable.not_not.mp hc15)
      refine im_ld (q := 69) (i := 0) D276_68 rfl rfl rfl ?_
      refine im_callV (q := 72) (kd := 1) (y := 282) (n := 0) (ci := 12) (a := 6952) (vs := [.ref 6952]) (r := []) (L2 := [some (.ref 6952)]) D276_69 (im_cal cn_276 cl_12_649) (Or.inl rfl) rfl sf_6952 rfl rfl rfl rfl hd ⟨rfl, trivial⟩ ?_
      refine hP.mono ?_
      rintro _ e54 M49 ⟨rfl, rfl, hP⟩
      refine im_bkN ?_
      refine im_ld (q := 73) (i := 0) D276_72 rfl rfl rfl ?_
      refine im_iconst (q := 74) D276_73 ?_
      refine im_iconst (q := 75) D276_74 ?_
      refine im_iconst (q := 76) D276_75 ?_
      refine im_iconst (q := 77) D276_76 ?_
      refine im_callV (q := 80) (kd := 1) (y := 275) (n := 4) (ci := 12) (a := 6952) (vs := [.ref 6952, vI 5, vI (-1), vI 0, vI 0]) (r := []) (L2 := [some (.ref 6952), some (vI 5), some (vI (-1)), some (vI 0), some (vI 0)]) D276_77 (im_cal cn_276 cl_12_652) (Or.inl rfl) rfl sf_6952 rfl rfl rfl rfl hd ⟨rfl, rfl, rfl, rfl, rfl, trivial⟩ ?_
      refine hP.mono ?_
      rintro _ e53 M50 ⟨rfl, rfl, hP⟩
      refine im_bkN ?_
      refine im_ld (q := 81) (i := 0) D276_80 rfl rfl rfl ?_
      refine im_ld (q := 82) (i := 1) D276_81 rfl rfl rfl ?_
      refine im_ld (q := 83) (i := 2) D276_82 rfl rfl rfl ?_
      refine im_ld (q := 84) (i := 3) D276_83 rfl rfl rfl ?_
      refine im_ld (q := 86) (i := 4) D276_84 rfl rfl rfl ?_
      refine im_callV (q := 89) (kd := 1) (y := 275) (n := 4) (ci := 12) (a := 6952) (vs := [.ref 6952, vI (M 6975 ((M 6952 45) - 1)), vI (M 6976 ((M 6952 45) - 1)), vI (M 6977 ((M 6952 45) - 1)), vI (M 6978 ((M 6952 45) - 1))]) (r := []) (L2 := [some (.ref 6952), some (vI (M 6975 ((M 6952 45) - 1))), some (vI (M 6976 ((M 6952 45) - 1))), some (vI (M 6977 ((M 6952 45) - 1))), some (vI (M 6978 ((M 6952 45) - 1)))]) D276_86 (im_cal cn_276 cl_12_652) (Or.inl rfl) rfl sf_6952 rfl rfl rfl rfl hd ⟨rfl, rfl, rfl, rfl, rfl, trivial⟩ ?_
      refine hP.mono ?_
      rintro _ e52 M51 ⟨rfl, rfl, hP⟩
      refine im_bkN ?_
      exact im_vret (q := 90) D276_89 rfl hP
set_option maxRecDepth 20000 in
set_option maxHeartbeats 4000000 in
theorem b_look0_0 {g : im_g} {d : Nat} {e : im_E} {M : im_M} {K : im_K} (hd : 1 ≤ d) (hP : (((((M 6952 14) < (M 6952 13) → (0 ≤ (M 6952 14) ∧ (M 6952 14) < 16384) ∧ (((M 6959 (M 6952 14)) ≤ 32 → (im_i32 ((M 6952 14) + 1)) ∧ im_T g d 277 0 [some (.ref 6952), none] [] e (im_u M 6952 14 ((M 6952 14) + 1)) K))))) ∧ (((((M 6952 13) ≤ (M 6952 14))) ∨ (((M 6952 14) < (M 6952 13)) ∧ (32 < (M 6959 (M 6952 14))))) → ((¬ (M 6952 14) = (M 6952 13) → (0 ≤ (M 6952 14) ∧ (M 6952 14) < 16384) ∧ im_T g (d - 1) 278 0 [some (vI (M 6959 (M 6952 14)))] [] e (im_u (im_u (im_u M 6952 16 (M 6952 14)) 6952 17 (M 6952 14)) 6952 18 0) (im_ri (fun x21 e_ M20 => e = e_ ∧ (im_i32 x21) ∧ ((x21 = 0 → im_T g d 277 142 [some (.ref 6952), none] [] e M20 K) ∧ (¬ x21 = 0 → (im_i32 ((M20 6952 14) + 1)) ∧ ((∀ x29 : Int, (((¬ (M 6959 (M 6952 14)) = 40) ∧ (¬ (M 6959 (M 6952 14)) = 41) ∧ (¬ (M 6959 (M 6952 14)) = 91) ∧ x29 = 8) ∨ ((¬ (M 6959 (M 6952 14)) = 40) ∧ (¬ (M 6959 (M 6952 14)) = 41) ∧ ((M 6959 (M 6952 14)) = 91) ∧ x29 = 7) ∨ ((¬ (M 6959 (M 6952 14)) = 40) ∧ ((M 6959 (M 6952 14)) = 41) ∧ x29 = 6) ∨ (((M 6959 (M 6952 14)) = 40) ∧ x29 = 5)) → K (.inl none) e (im_u (im_u M20 6952 17 ((M20 6952 14) + 1)) 6952 15 x29)))))))) ∧ ((M 6952 14) = (M 6952 13) → K (.inl none) e (im_u (im_u (im_u (im_u M 6952 16 (M 6952 14)) 6952 17 (M 6952 14)) 6952 18 0) 6952 15 0)))))) : im_T g d 277 0 [some (.ref 6952), none] [] e M K := by
  refine im_ld (q := 1) (i := 0) D277_0 rfl rfl rfl ?_
  refine im_rng (j := 14) sf_6952 (by decide) (by decide) (fun hr1 => ?_)
  refine im_gfI (q := 4) D277_1 (im_fl cn_277 fl_12_601) sf_6952 rfl rfl tI_12_14 rfl ?_
  refine im_ld (q := 5) (i := 0) D277_4 rfl rfl rfl ?_
  refine im_rng (j := 13) sf_6952 (by decide) (by decide) (fun hr2 => ?_)
  refine im_gfI (q := 8) D277_5 (im_fl cn_277 fl_12_604) sf_6952 rfl rfl tI_12_13 rfl ?_
  obtain ⟨hP, hJ9⟩ := hP
  have kJ10 : ((((M 6952 13) ≤ (M 6952 14))) ∨ (((M 6952 14) < (M 6952 13)) ∧ (32 < (M 6959 (M 6952 14))))) → im_T g d 277 38 [some (.ref 6952), none] [] e M K := by
    intro  hx11
    have hP := hJ9  hx11
    refine im_ld (q := 39) (i := 0) D277_38 rfl rfl rfl ?_
    refine im_ld (q := 40) (i := 0) D277_39 rfl rfl rfl ?_
    refine im_gfI (q := 43) D277_40 (im_fl cn_277 fl_12_601) sf_6952 rfl rfl tI_12_14 rfl ?_
    refine im_pfI (q := 46) D277_43 (im_fl cn_277 fl_12_585) sf_6952 rfl rfl ti_12_16 hr1 ?_
    refine im_ld (q := 47) (i := 0) D277_46 rfl rfl rfl ?_
    refine im_ld (q := 48) (i := 0) D277_47 rfl rfl rfl ?_
    refine im_gfI (q := 51) D277_48 (im_fl cn_277 fl_12_601) sf_6952 rfl rfl tI_12_14 (im_rdk _ _ _ (by decide)) ?_
    refine im_pfI (q := 54) D277_51 (im_fl cn_277 fl_12_588) sf_6952 rfl rfl ti_12_17 hr1 ?_
    refine im_ld (q := 55) (i := 0) D277_54 rfl rfl rfl ?_
    refine im_lconst (q := 56) (z := 0) D277_55 rfl ?_
    refine im_pfL (q := 59) D277_56 (im_fl cn_277 fl_12_597) sf_6952 rfl rfl tl_12_18 (by decide) ?_
    refine im_ld (q := 60) (i := 0) D277_59 rfl rfl rfl ?_
    refine im_gfI (q := 63) D277_60 (im_fl cn_277 fl_12_601) sf_6952 rfl rfl tI_12_14 ((im_rdk _ _ _ (by decide)).trans ((im_rdk _ _ _ (by decide)).trans (im_rdk _ _ _ (by decide)))) ?_
    refine im_ld (q := 64) (i := 0) D277_63 rfl rfl rfl ?_
    refine im_gfI (q := 67) D277_64 (im_fl cn_277 fl_12_604) sf_6952 rfl rfl tI_12_13 ((im_rdk _ _ _ (by decide)).trans ((im_rdk _ _ _ (by decide)).trans (im_rdk _ _ _ (by decide)))) ?_
    refine im_icmp (q := 70) (t := 76) D277_67 rfl hr1 hr2 (fun hc16 => ?_) (fun hc16 => ?_)
    · replace hP := hP.1 hc16
      refine im_ld (q := 77) (i := 0) D277_76 rfl rfl rfl ?_
      refine im_gfR (q := 80) (b := 6959) D277_77 (im_fl cn_277 fl_12_30) sf_6952 rfl rfl tR_12_12 rf_6952_12 ?_
      refine im_ld (q := 81) (i := 0) D277_80 rfl rfl rfl ?_
      refine im_gfI (q := 84) D277_81 (im_fl cn_277 fl_12_601) sf_6952 rfl rfl tI_12_14 ((im_rdk _ _ _ (by decide)).trans ((im_rdk _ _ _ (by decide)).trans (im_rdk _ _ _ (by decide)))) ?_
      obtain ⟨hg18, hP⟩ := hP
      refine im_rng (j := (M 6952 14)) sf_6959 hg18.1 hg18.2 (fun hr19 => ?_)
      refine im_iald (q := 85) D277_84 sf_6959 hg18.1 hg18.2 (by decide) ((im_rdn _ _ _ _ (by decide)).trans ((im_rdn _ _ _ _ (by decide)).trans (im_rdn _ _ _ _ (by decide)))) ?_
      refine im_st1 (q := 86) (i := 1) (L' := [some (.ref 6952), some (vI (M 6959 (M 6952 14)))]) D277_85 (Or.inl ⟨_, rfl, rfl⟩) (Nat.le_of_ble_eq_true rfl) rfl ?_
      refine im_ld (q := 87) (i := 1) D277_86 rfl rfl rfl ?_
      refine im_callS (q := 90) (kd := 0) (y := 278) (n := 1) (z := 12) (vs := [vI (M 6959 (M 6952 14))]) (r := []) (L2 := [some (vI (M 6959 (M 6952 14)))]) D277_87 rfl (im_cal cn_277 cl_12_607) (Or.inl rfl) rfl rfl rfl rfl rfl hd ⟨rfl, trivial⟩ ?_
      refine hP.mono ?_
      rintro _ e33 M20 ⟨x21, rfl, rfl, hP⟩
      refine im_bkS ?_
      obtain ⟨hg22, hP⟩ := hP
      refine im_ifc (q := 93) (t := 142) D277_90 rfl hg22 (fun hc23 => ?_) (fun hc23 => ?_)
      · replace hP := hP.1 hc23
        exact hP.wk ⟨rfl, trivial⟩
      · replace hP := hP.2 hc23
        refine im_ld (q := 94) (i := 0) D277_93 rfl rfl rfl ?_
        refine im_ld (q := 95) (i := 0) D277_94 rfl rfl rfl ?_
        refine im_rng (j := 14) sf_6952 (by decide) (by decide) (fun hr24 => ?_)
        refine im_gfI (q := 98) D277_95 (im_fl cn_277 fl_12_601) sf_6952 rfl rfl tI_12_14 rfl ?_
        refine im_iconst (q := 99) D277_98 ?_
        refine im_iadd (q := 100) D277_99 ?_
        obtain ⟨hg25, hP⟩ := hP
        refine im_pfI (q := 103) D277_100 (im_fl cn_277 fl_12_588) sf_6952 rfl rfl ti_12_17 hg25 ?_
        refine im_ld (q := 104) (i := 0) D277_103 rfl rfl rfl ?_
        refine im_ld (q := 105) (i := 1) D277_104 rfl rfl rfl ?_
        refine im_bipush (q := 107) D277_105 rfl ?_
        have hJ30 := hP
        have kJ31 : ∀ x29 : Int, (((¬ (M 6959 (M 6952 14)) = 40) ∧ (¬ (M 6959 (M 6952 14)) = 41) ∧ (¬ (M 6959 (M 6952 14)) = 91) ∧ x29 = 8) ∨ ((¬ (M 6959 (M 6952 14)) = 40) ∧ (¬ (M 6959 (M 6952 14)) = 41) ∧ ((M 6959 (M 6952 14)) = 91) ∧ x29 = 7) ∨ ((¬ (M 6959 (M 6952 14)) = 40) ∧ ((M 6959 (M 6952 14)) = 41) ∧ x29 = 6) ∨ (((M 6959 (M 6952 14)) = 40) ∧ x29 = 5)) → im_T g d 277 138 [none, none] [vI x29, .ref 6952] e (im_u M20 6952 17 ((M20 6952 14) + 1)) K := by
          intro x29 hx32
          have hP := hJ30 x29 hx32
          refine im_pfI (q := 141) D277_138 (im_fl cn_277 fl_12_591) sf_6952 rfl rfl ti_12_15 (by omega) ?_
          exact im_vret (q := 142) D277_141 rfl hP
        refine im_icmp (q := 110) (t := 114) D277_107 rfl (im_rgc hr19 ((im_rdn _ _ _ _ (by decide)).trans ((im_rdn _ _ _ _ (by decide)).trans (im_rdn _ _ _ _ (by decide))))) (by decide) (fun hc26 => ?_) (fun hc26 => ?_)
        · refine im_ld (q := 115) (i := 1) D277_114 rfl rfl rfl ?_
          refine im_bipush (q := 117) D277_115 rfl ?_
          refine im_icmp (q := 120) (t := 125) D277_117 rfl (im_rgc hr19 ((im_rdn _ _ _ _ (by decide)).trans ((im_rdn _ _ _ _ (by decide)).trans (im_rdn _ _ _ _ (by decide))))) (by decide) (fun hc27 => ?_) (fun hc27 => ?_)
          · refine im_ld (q := 126) (i := 1) D277_125 rfl rfl rfl ?_
            refine im_bipush (q := 128) D277_126 rfl ?_
            refine im_icmp (q := 131) (t := 136) D277_128 rfl (im_rgc hr19 ((im_rdn _ _ _ _ (by decide)).trans ((im_rdn _ _ _ _ (by decide)).trans (im_rdn _ _ _ _ (by decide))))) (by decide) (fun hc28 => ?_) (fun hc28 => ?_)
            · refine im_bipush (q := 138) D277_136 rfl ?_
              exact (kJ31 (8) (Or.inl ⟨hc26, hc27, hc28, rfl⟩)).wk trivial
            · refine im_bipush (q := 133) D277_131 rfl ?_
              refine im_goto (q := 136) (t := 138) D277_133 rfl ?_
              exact (kJ31 (7) (Or.inr (Or.inl ⟨hc26, hc27, (Decidable.not_not.mp hc28), rfl⟩))).wk trivial
          · refine im_bipush (q := 122) D277_120 rfl ?_
            refine im_goto (q := 125) (t := 138) D277_122 rfl ?_
            exact (kJ31 (6) (Or.inr (Or.inr (Or.inl ⟨hc26, (Decidable.not_not.mp hc27), rfl⟩)))).wk trivial
        · refine im_iconst (q := 111) D277_110 ?_
          refine im_goto (q := 114) (t := 138) D277_111 rfl ?_
          exact (kJ31 (5) (Or.inr (Or.inr (Or.inr ⟨(Decidable.not_not.mp hc26), rfl⟩)))).wk trivial
    · replace hP := hP.2 (Decidable.not_not.mp hc16)
      refine im_ld (q := 71) (i := 0) D277_70 rfl rfl rfl ?_
      refine im_iconst (q := 72) D277_71 ?_
      refine im_pfI (q := 75) D277_72 (im_fl cn_277 fl_12_591) sf_6952 rfl rfl ti_12_15 (by decide) ?_
      exact im_vret (q := 76) D277_75 rfl hP
  refine im_icmp (q := 11) (t := 38) D277_8 rfl hr1 hr2 (fun hc3 => ?_) (fun hc3 => ?_)
  · exact (kJ10  (Or.inl hc3)).wk ⟨rfl, trivial⟩
  · replace hP := hP (Int.not_le.mp hc3)
    refine im_ld (q := 12) (i := 0) D277_11 rfl rfl rfl ?_
    refine im_gfR (q := 15) (b := 6959) D277_12 (im_fl cn_277 fl_12_30) sf_6952 rfl rfl tR_12_12 rf_6952_12 ?_
    refine im_ld (q := 16) (i := 0) D277_15 rfl rfl rfl ?_
    refine im_gfI (q := 19) D277_16 (im_fl cn_277 fl_12_601) sf_6952 rfl rfl tI_12_14 rfl ?_
    obtain ⟨hg5, hP⟩ := hP
    refine im_rng (j := (M 6952 14)) sf_6959 hg5.1 hg5.2 (fun hr6 => ?_)
    refine im_iald (q := 20) D277_19 sf_6959 hg5.1 hg5.2 (by decide) rfl ?_
    refine im_bipush (q := 22) D277_20 rfl ?_
    refine im_icmp (q := 25) (t := 38) D277_22 rfl hr6 (by decide) (fun hc7 => ?_) (fun hc7 => ?_)
    · exact (kJ10  (Or.inr ⟨(Int.not_le.mp hc3), hc7⟩)).wk ⟨rfl, trivial⟩
    · replace hP := hP (Int.not_lt.mp hc7)
      refine im_ld (q := 26) (i := 0) D277_25 rfl rfl rfl ?_
      refine im_dup (q := 27) D277_26 rfl ?_
      refine im_gfI (q := 30) D277_27 (im_fl cn_277 fl_12_601) sf_6952 rfl rfl tI_12_14 rfl ?_
      refine im_iconst (q := 31) D277_30 ?_
      refine im_iadd (q := 32) D277_31 ?_
      obtain ⟨hg34, hP⟩ := hP
      refine im_pfI (q := 35) D277_32 (im_fl cn_277 fl_12_601) sf_6952 rfl rfl ti_12_14 hg34 ?_
      refine im_goto (q := 38) (t := 0) D277_35 rfl ?_
      exact hP.wk ⟨rfl, trivial⟩
set_option maxRecDepth 20000 in
set_option maxHeartbeats 4000000 in
theorem b_look0_142 {g : im_g} {d : Nat} {e : im_E} {M : im_M} {K : im_K} (hd : 1 ≤ d) (hP : (((((M 6952 17) < (M 6952 13) → (0 ≤ (M 6952 17) ∧ (M 6952 17) < 16384) ∧ ((32 < (M 6959 (M 6952 17)) → im_T g (d - 1) 278 0 [some (vI (M 6959 (M 6952 17)))] [] e M (im_ri (fun x16 e_ M15 => e = e_ ∧ (im_i32 x16) ∧ ((¬ x16 = 0 → im_T g (d - 1) 279 0 [some (.ref 6952), none, none, none, none] [] e M15 (im_r0 (fun  e_ M20 => e = e_ ∧ K (.inl none) e M20))) ∧ (x16 = 0 → (im_i32 ((M15 6952 17) + 1)) ∧ im_T g d 277 142 [some (.ref 6952), none] [] e (im_u M15 6952 17 ((M15 6952 17) + 1)) K))))))))) ∧ (((((M 6952 13) ≤ (M 6952 17))) ∨ (((M 6952 17) < (M 6952 13)) ∧ ((M 6959 (M 6952 17)) ≤ 32))) → im_T g (d - 1) 279 0 [some (.ref 6952), none, none, none, none] [] e M (im_r0 (fun  e_ M13 => e = e_ ∧ K (.inl none) e M13))))) : im_T g d 277 142 [some (.ref 6952), none] [] e M K := by
  refine im_ld (q := 143) (i := 0) D277_142 rfl rfl rfl ?_
  refine im_rng (j := 17) sf_6952 (by decide) (by decide) (fun hr1 => ?_)
  refine im_gfI (q := 146) D277_143 (im_fl cn_277 fl_12_588) sf_6952 rfl rfl tI_12_17 rfl ?_
  refine im_ld (q := 147) (i := 0) D277_146 rfl rfl rfl ?_
  refine im_rng (j := 13) sf_6952 (by decide) (by decide) (fun hr2 => ?_)
  refine im_gfI (q := 150) D277_147 (im_fl cn_277 fl_12_604) sf_6952 rfl rfl tI_12_13 rfl ?_
  obtain ⟨hP, hJ10⟩ := hP
  have kJ11 : ((((M 6952 13) ≤ (M 6952 17))) ∨ (((M 6952 17) < (M 6952 13)) ∧ ((M 6959 (M 6952 17)) ≤ 32))) → im_T g d 277 195 [some (.ref 6952), none] [] e M K := by
    intro  hx12
    have hP := hJ10  hx12
    refine im_ld (q := 196) (i := 0) D277_195 rfl rfl rfl ?_
    refine im_callV (q := 199) (kd := 1) (y := 279) (n := 0) (ci := 12) (a := 6952) (vs := [.ref 6952]) (r := []) (L2 := [some (.ref 6952), none, none, none, none]) D277_196 (im_cal cn_277 cl_12_611) (Or.inl rfl) rfl sf_6952 rfl rfl rfl rfl hd ⟨rfl, trivial⟩ ?_
    refine hP.mono ?_
    rintro _ e14 M13 ⟨rfl, rfl, hP⟩
    refine im_bkN ?_
    exact im_vret (q := 200) D277_199 rfl hP
  refine im_icmp (q := 153) (t := 195) D277_150 rfl hr1 hr2 (fun hc3 => ?_) (fun hc3 => ?_)
  · exact (kJ11  (Or.inl hc3)).wk ⟨rfl, trivial⟩
  · replace hP := hP (Int.not_le.mp hc3)
    refine im_ld (q := 154) (i := 0) D277_153 rfl rfl rfl ?_
    refine im_gfR (q := 157) (b := 6959) D277_154 (im_fl cn_277 fl_12_30) sf_6952 rfl rfl tR_12_12 rf_6952_12 ?_
    refine im_ld (q := 158) (i := 0) D277_157 rfl rfl rfl ?_
    refine im_gfI (q := 161) D277_158 (im_fl cn_277 fl_12_588) sf_6952 rfl rfl tI_12_17 rfl ?_
    obtain ⟨hg5, hP⟩ := hP
    refine im_rng (j := (M 6952 17)) sf_6959 hg5.1 hg5.2 (fun hr6 => ?_)
    refine im_iald (q := 162) D277_161 sf_6959 hg5.1 hg5.2 (by decide) rfl ?_
    refine im_bipush (q := 164) D277_162 rfl ?_
    refine im_icmp (q := 167) (t := 195) D277_164 rfl hr6 (by decide) (fun hc7 => ?_) (fun hc7 => ?_)
    · exact (kJ11  (Or.inr ⟨(Int.not_le.mp hc3), hc7⟩)).wk ⟨rfl, trivial⟩
    · replace hP := hP (Int.not_le.mp hc7)
      refine im_ld (q := 168) (i := 0) D277_167 rfl rfl rfl ?_
      refine im_gfR (q := 171) (b := 6959) D277_168 (im_fl cn_277 fl_12_30) sf_6952 rfl rfl tR_12_12 rf_6952_12 ?_
      refine im_ld (q := 172) (i := 0) D277_171 rfl rfl rfl ?_
      refine im_gfI (q := 175) D277_172 (im_fl cn_277 fl_12_588) sf_6952 rfl rfl tI_12_17 rfl ?_
      refine im_iald (q := 176) D277_175 sf_6959 hg5.1 hg5.2 (by decide) rfl ?_
      refine im_callS (q := 179) (kd := 0) (y := 278) (n := 1) (z := 12) (vs := [vI (M 6959 (M 6952 17))]) (r := []) (L2 := [some (vI (M 6959 (M 6952 17)))]) D277_176 rfl (im_cal cn_277 cl_12_607) (Or.inl rfl) rfl rfl rfl rfl rfl hd ⟨rfl, trivial⟩ ?_
      refine hP.mono ?_
      rintro _ e23 M15 ⟨x16, rfl, rfl, hP⟩
      refine im_bkS ?_
      obtain ⟨hg17, hP⟩ := hP
      refine im_ifc (q := 182) (t := 195) D277_179 rfl hg17 (fun hc18 => ?_) (fun hc18 => ?_)
      · replace hP := hP.1 hc18
        refine im_ld (q := 196) (i := 0) D277_195 rfl rfl rfl ?_
        refine im_callV (q := 199) (kd := 1) (y := 279) (n := 0) (ci := 12) (a := 6952) (vs := [.ref 6952]) (r := []) (L2 := [some (.ref 6952), none, none, none, none]) D277_196 (im_cal cn_277 cl_12_611) (Or.inl rfl) rfl sf_6952 rfl rfl rfl rfl hd ⟨rfl, trivial⟩ ?_
        refine hP.mono ?_
        rintro _ e21 M20 ⟨rfl, rfl, hP⟩
        refine im_bkN ?_
        exact im_vret (q := 200) D277_199 rfl hP
      · replace hP := hP.2 (Decidable.not_not.mp hc18)
        refine im_ld (q := 183) (i := 0) D277_182 rfl rfl rfl ?_
        refine im_dup (q := 184) D277_183 rfl ?_
        refine im_rng (j := 17) sf_6952 (by decide) (by decide) (fun hr19 => ?_)
        refine im_gfI (q := 187) D277_184 (im_fl cn_277 fl_12_588) sf_6952 rfl rfl tI_12_17 rfl ?_
        refine im_iconst (q := 188) D277_187 ?_
        refine im_iadd (q := 189) D277_188 ?_
        obtain ⟨hg22, hP⟩ := hP
        refine im_pfI (q := 192) D277_189 (im_fl cn_277 fl_12_588) sf_6952 rfl rfl ti_12_17 hg22 ?_
        refine im_goto (q := 195) (t := 142) D277_192 rfl ?_
        exact hP.wk ⟨rfl, trivial⟩
set_option maxRecDepth 20000 in
set_option maxHeartbeats 4000000 in
theorem b_isBracket_0 {g : im_g} {d : Nat} {e : im_E} {M : im_M} {K : im_K} {p0 : Int} (hP : (im_i32 p0) ∧ ((((¬ p0 = 40 → ((¬ p0 = 41 → ((¬ p0 = 91 → ((¬ p0 = 93 → K (.inl (some (vI 0))) e M))))))))) ∧ ((((p0 = 40)) ∨ ((¬ p0 = 40) ∧ (p0 = 41)) ∨ ((¬ p0 = 40) ∧ (¬ p0 = 41) ∧ (p0 = 91)) ∨ ((¬ p0 = 40) ∧ (¬ p0 = 41) ∧ (¬ p0 = 91) ∧ (p0 = 93))) → K (.inl (some (vI 1))) e M))) : im_T g d 278 0 [some (vI p0)] [] e M K := by
  refine im_ld (q := 1) (i := 0) D278_0 rfl rfl rfl ?_
  refine im_bipush (q := 3) D278_1 rfl ?_
  obtain ⟨hg1, hP⟩ := hP
  obtain ⟨hP, hJ6⟩ := hP
  have kJ7 : (((p0 = 40)) ∨ ((¬ p0 = 40) ∧ (p0 = 41)) ∨ ((¬ p0 = 40) ∧ (¬ p0 = 41) ∧ (p0 = 91)) ∨ ((¬ p0 = 40) ∧ (¬ p0 = 41) ∧ (¬ p0 = 91) ∧ (p0 = 93))) → im_T g d 278 24 [none] [] e M K := by
    intro  hx8
    have hP := hJ6  hx8
    refine im_iconst (q := 25) D278_24 ?_
    refine im_goto (q := 28) (t := 29) D278_25 rfl ?_
    exact im_zret (q := 30) D278_29 rfl (by decide) hP
  refine im_icmp (q := 6) (t := 24) D278_3 rfl hg1 (by decide) (fun hc2 => ?_) (fun hc2 => ?_)
  · exact (kJ7  (Or.inl hc2)).wk trivial
  · replace hP := hP hc2
    refine im_ld (q := 7) (i := 0) D278_6 rfl rfl rfl ?_
    refine im_bipush (q := 9) D278_7 rfl ?_
    refine im_icmp (q := 12) (t := 24) D278_9 rfl hg1 (by decide) (fun hc3 => ?_) (fun hc3 => ?_)
    · exact (kJ7  (Or.inr (Or.inl ⟨hc2, hc3⟩))).wk trivial
    · replace hP := hP hc3
      refine im_ld (q := 13) (i := 0) D278_12 rfl rfl rfl ?_
      refine im_bipush (q := 15) D278_13 rfl ?_
      refine im_icmp (q := 18) (t := 24) D278_15 rfl hg1 (by decide) (fun hc4 => ?_) (fun hc4 => ?_)
      · exact (kJ7  (Or.inr (Or.inr (Or.inl ⟨hc2, hc3, hc4⟩)))).wk trivial
      · replace hP := hP hc4
        refine im_ld (q := 19) (i := 0) D278_18 rfl rfl rfl ?_
        refine im_bipush (q := 21) D278_19 rfl ?_
        refine im_icmp (q := 24) (t := 28) D278_21 rfl hg1 (by decide) (fun hc5 => ?_) (fun hc5 => ?_)
        · replace hP := hP hc5
          refine im_iconst (q := 29) D278_28 ?_
          exact im_zret (q := 30) D278_29 rfl (by decide) hP
        · exact (kJ7  (Or.inr (Or.inr (Or.inr ⟨hc2, hc3, hc4, (Decidable.not_not.mp hc5)⟩)))).wk trivial

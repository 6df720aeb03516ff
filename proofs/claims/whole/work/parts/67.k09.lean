/-! blocks of the class -/
theorem D173_0 {g : im_g} : im_D g 173 0 (.aload_n 0) 1 := im_D.of (by decide +kernel)
theorem D173_1 {g : im_g} : im_D g 173 1 (.invokevirtual 124) 4 := im_D.of (by decide +kernel)
theorem D173_4 {g : im_g} : im_D g 173 4 (.iload_n 1) 5 := im_D.of (by decide +kernel)
theorem D173_5 {g : im_g} : im_D g 173 5 (.bipush 16) 7 := im_D.of (by decide +kernel)
theorem D173_7 {g : im_g} : im_D g 173 7 (.invokestatic 183) 10 := im_D.of (by decide +kernel)
theorem D173_10 {g : im_g} : im_D g 173 10 (.aload_n 0) 11 := im_D.of (by decide +kernel)
theorem D173_11 {g : im_g} : im_D g 173 11 (.getfield 49) 14 := im_D.of (by decide +kernel)
theorem D173_14 {g : im_g} : im_D g 173 14 (.iload_n 1) 15 := im_D.of (by decide +kernel)
theorem D173_15 {g : im_g} : im_D g 173 15 (.iaload) 16 := im_D.of (by decide +kernel)
theorem D173_16 {g : im_g} : im_D g 173 16 (.iconst (-1)) 17 := im_D.of (by decide +kernel)
theorem D173_17 {g : im_g} : im_D g 173 17 (.if_icmp .eq 7) 20 := im_D.of (by decide +kernel)
theorem D173_20 {g : im_g} : im_D g 173 20 (.iconst 1) 21 := im_D.of (by decide +kernel)
theorem D173_21 {g : im_g} : im_D g 173 21 (.goto 4) 24 := im_D.of (by decide +kernel)
theorem D173_24 {g : im_g} : im_D g 173 24 (.iconst 0) 25 := im_D.of (by decide +kernel)
theorem D173_25 {g : im_g} : im_D g 173 25 (.invokestatic 187) 28 := im_D.of (by decide +kernel)
theorem D173_28 {g : im_g} : im_D g 173 28 (.aload_n 0) 29 := im_D.of (by decide +kernel)
theorem D173_29 {g : im_g} : im_D g 173 29 (.getfield 29) 32 := im_D.of (by decide +kernel)
theorem D173_32 {g : im_g} : im_D g 173 32 (.invokevirtual 155) 35 := im_D.of (by decide +kernel)
theorem D173_35 {g : im_g} : im_D g 173 35 (.aload_n 0) 36 := im_D.of (by decide +kernel)
theorem D173_36 {g : im_g} : im_D g 173 36 (.getfield 29) 39 := im_D.of (by decide +kernel)
theorem D173_39 {g : im_g} : im_D g 173 39 (.aload_n 0) 40 := im_D.of (by decide +kernel)
theorem D173_40 {g : im_g} : im_D g 173 40 (.getfield 36) 43 := im_D.of (by decide +kernel)
theorem D173_43 {g : im_g} : im_D g 173 43 (.aload_n 0) 44 := im_D.of (by decide +kernel)
theorem D173_44 {g : im_g} : im_D g 173 44 (.getfield 49) 47 := im_D.of (by decide +kernel)
theorem D173_47 {g : im_g} : im_D g 173 47 (.iload_n 1) 48 := im_D.of (by decide +kernel)
theorem D173_48 {g : im_g} : im_D g 173 48 (.iaload) 49 := im_D.of (by decide +kernel)
theorem D173_49 {g : im_g} : im_D g 173 49 (.invokevirtual 191) 52 := im_D.of (by decide +kernel)
theorem D173_52 {g : im_g} : im_D g 173 52 (.aload_n 0) 53 := im_D.of (by decide +kernel)
theorem D173_53 {g : im_g} : im_D g 173 53 (.getfield 29) 56 := im_D.of (by decide +kernel)
theorem D173_56 {g : im_g} : im_D g 173 56 (.getfield 149) 59 := im_D.of (by decide +kernel)
theorem D173_59 {g : im_g} : im_D g 173 59 (.ireturn) 60 := im_D.of (by decide +kernel)
theorem D174_0 {g : im_g} : im_D g 174 0 (.iload_n 2) 1 := im_D.of (by decide +kernel)
theorem D174_1 {g : im_g} : im_D g 174 1 (.istore_n 3) 2 := im_D.of (by decide +kernel)
theorem D174_2 {g : im_g} : im_D g 174 2 (.aload_n 0) 3 := im_D.of (by decide +kernel)
theorem D174_3 {g : im_g} : im_D g 174 3 (.iconst 0) 4 := im_D.of (by decide +kernel)
theorem D174_4 {g : im_g} : im_D g 174 4 (.putfield 68) 7 := im_D.of (by decide +kernel)
theorem D174_7 {g : im_g} : im_D g 174 7 (.aload_n 0) 8 := im_D.of (by decide +kernel)
theorem D174_8 {g : im_g} : im_D g 174 8 (.bipush 99) 10 := im_D.of (by decide +kernel)
theorem D174_10 {g : im_g} : im_D g 174 10 (.iload_n 2) 11 := im_D.of (by decide +kernel)
theorem D174_11 {g : im_g} : im_D g 174 11 (.invokevirtual 71) 14 := im_D.of (by decide +kernel)
theorem D174_14 {g : im_g} : im_D g 174 14 (.iconst 0) 15 := im_D.of (by decide +kernel)
theorem D174_15 {g : im_g} : im_D g 174 15 (.istore 4) 17 := im_D.of (by decide +kernel)
theorem D174_17 {g : im_g} : im_D g 174 17 (.iload 4) 19 := im_D.of (by decide +kernel)
theorem D174_19 {g : im_g} : im_D g 174 19 (.sipush 16384) 22 := im_D.of (by decide +kernel)
theorem D174_22 {g : im_g} : im_D g 174 22 (.if_icmp .ge 140) 25 := im_D.of (by decide +kernel)
theorem D174_25 {g : im_g} : im_D g 174 25 (.aload_n 0) 26 := im_D.of (by decide +kernel)
theorem D174_26 {g : im_g} : im_D g 174 26 (.getfield 68) 29 := im_D.of (by decide +kernel)
theorem D174_29 {g : im_g} : im_D g 174 29 (.ifCond .le 133) 32 := im_D.of (by decide +kernel)
theorem D174_32 {g : im_g} : im_D g 174 32 (.iload_n 3) 33 := im_D.of (by decide +kernel)
theorem D174_33 {g : im_g} : im_D g 174 33 (.aload_n 1) 34 := im_D.of (by decide +kernel)
theorem D174_34 {g : im_g} : im_D g 174 34 (.getfield 75) 37 := im_D.of (by decide +kernel)
theorem D174_37 {g : im_g} : im_D g 174 37 (.arraylength) 38 := im_D.of (by decide +kernel)
theorem D174_38 {g : im_g} : im_D g 174 38 (.if_icmp .ge 124) 41 := im_D.of (by decide +kernel)
theorem D174_41 {g : im_g} : im_D g 174 41 (.aload_n 0) 42 := im_D.of (by decide +kernel)
theorem D174_42 {g : im_g} : im_D g 174 42 (.dup) 43 := im_D.of (by decide +kernel)
theorem D174_43 {g : im_g} : im_D g 174 43 (.getfield 68) 46 := im_D.of (by decide +kernel)
theorem D174_46 {g : im_g} : im_D g 174 46 (.iconst 1) 47 := im_D.of (by decide +kernel)
theorem D174_47 {g : im_g} : im_D g 174 47 (.isub) 48 := im_D.of (by decide +kernel)
theorem D174_48 {g : im_g} : im_D g 174 48 (.putfield 68) 51 := im_D.of (by decide +kernel)
theorem D174_51 {g : im_g} : im_D g 174 51 (.aload_n 0) 52 := im_D.of (by decide +kernel)
theorem D174_52 {g : im_g} : im_D g 174 52 (.getfield 15) 55 := im_D.of (by decide +kernel)
theorem D174_55 {g : im_g} : im_D g 174 55 (.aload_n 0) 56 := im_D.of (by decide +kernel)
theorem D174_56 {g : im_g} : im_D g 174 56 (.getfield 68) 59 := im_D.of (by decide +kernel)
theorem D174_59 {g : im_g} : im_D g 174 59 (.iaload) 60 := im_D.of (by decide +kernel)
theorem D174_60 {g : im_g} : im_D g 174 60 (.istore 5) 62 := im_D.of (by decide +kernel)
theorem D174_62 {g : im_g} : im_D g 174 62 (.aload_n 0) 63 := im_D.of (by decide +kernel)
theorem D174_63 {g : im_g} : im_D g 174 63 (.getfield 19) 66 := im_D.of (by decide +kernel)
theorem D174_66 {g : im_g} : im_D g 174 66 (.aload_n 0) 67 := im_D.of (by decide +kernel)
theorem D174_67 {g : im_g} : im_D g 174 67 (.getfield 68) 70 := im_D.of (by decide +kernel)
theorem D174_70 {g : im_g} : im_D g 174 70 (.iaload) 71 := im_D.of (by decide +kernel)
theorem D174_71 {g : im_g} : im_D g 174 71 (.istore 6) 73 := im_D.of (by decide +kernel)
theorem D174_73 {g : im_g} : im_D g 174 73 (.iload 5) 75 := im_D.of (by decide +kernel)
theorem D174_75 {g : im_g} : im_D g 174 75 (.bipush 99) 77 := im_D.of (by decide +kernel)
theorem D174_77 {g : im_g} : im_D g 174 77 (.if_icmp .eq 17) 80 := im_D.of (by decide +kernel)
theorem D174_80 {g : im_g} : im_D g 174 80 (.iload 5) 82 := im_D.of (by decide +kernel)
theorem D174_82 {g : im_g} : im_D g 174 82 (.bipush 118) 84 := im_D.of (by decide +kernel)
theorem D174_84 {g : im_g} : im_D g 174 84 (.if_icmp .eq 10) 87 := im_D.of (by decide +kernel)
theorem D174_87 {g : im_g} : im_D g 174 87 (.iload 5) 89 := im_D.of (by decide +kernel)
theorem D174_89 {g : im_g} : im_D g 174 89 (.bipush 111) 91 := im_D.of (by decide +kernel)
theorem D174_91 {g : im_g} : im_D g 174 91 (.if_icmp .ne 15) 94 := im_D.of (by decide +kernel)
theorem D174_94 {g : im_g} : im_D g 174 94 (.aload_n 0) 95 := im_D.of (by decide +kernel)
theorem D174_95 {g : im_g} : im_D g 174 95 (.aload_n 1) 96 := im_D.of (by decide +kernel)
theorem D174_96 {g : im_g} : im_D g 174 96 (.iload_n 3) 97 := im_D.of (by decide +kernel)
theorem D174_97 {g : im_g} : im_D g 174 97 (.invokevirtual 80) 100 := im_D.of (by decide +kernel)
theorem D174_100 {g : im_g} : im_D g 174 100 (.iinc 3 1) 103 := im_D.of (by decide +kernel)
theorem D174_103 {g : im_g} : im_D g 174 103 (.goto 53) 106 := im_D.of (by decide +kernel)
theorem D174_106 {g : im_g} : im_D g 174 106 (.iload 5) 108 := im_D.of (by decide +kernel)
theorem D174_108 {g : im_g} : im_D g 174 108 (.bipush 107) 110 := im_D.of (by decide +kernel)
theorem D174_110 {g : im_g} : im_D g 174 110 (.if_icmp .ne 37) 113 := im_D.of (by decide +kernel)
theorem D174_113 {g : im_g} : im_D g 174 113 (.aload_n 1) 114 := im_D.of (by decide +kernel)
theorem D174_114 {g : im_g} : im_D g 174 114 (.iload_n 3) 115 := im_D.of (by decide +kernel)
theorem D174_115 {g : im_g} : im_D g 174 115 (.invokevirtual 84) 118 := im_D.of (by decide +kernel)
theorem D174_118 {g : im_g} : im_D g 174 118 (.ifCond .eq 29) 121 := im_D.of (by decide +kernel)
theorem D174_121 {g : im_g} : im_D g 174 121 (.aload_n 0) 122 := im_D.of (by decide +kernel)
theorem D174_122 {g : im_g} : im_D g 174 122 (.bipush 107) 124 := im_D.of (by decide +kernel)
theorem D174_124 {g : im_g} : im_D g 174 124 (.iload 6) 126 := im_D.of (by decide +kernel)
theorem D174_126 {g : im_g} : im_D g 174 126 (.invokevirtual 71) 129 := im_D.of (by decide +kernel)
theorem D174_129 {g : im_g} : im_D g 174 129 (.aload_n 0) 130 := im_D.of (by decide +kernel)
theorem D174_130 {g : im_g} : im_D g 174 130 (.bipush 31) 132 := im_D.of (by decide +kernel)
theorem D174_132 {g : im_g} : im_D g 174 132 (.invokevirtual 88) 135 := im_D.of (by decide +kernel)
theorem D174_135 {g : im_g} : im_D g 174 135 (.aload_n 0) 136 := im_D.of (by decide +kernel)
theorem D174_136 {g : im_g} : im_D g 174 136 (.aload_n 1) 137 := im_D.of (by decide +kernel)
theorem D174_137 {g : im_g} : im_D g 174 137 (.iload_n 3) 138 := im_D.of (by decide +kernel)
theorem D174_138 {g : im_g} : im_D g 174 138 (.invokevirtual 80) 141 := im_D.of (by decide +kernel)
theorem D174_141 {g : im_g} : im_D g 174 141 (.iinc 3 1) 144 := im_D.of (by decide +kernel)
theorem D174_144 {g : im_g} : im_D g 174 144 (.goto 12) 147 := im_D.of (by decide +kernel)
theorem D174_147 {g : im_g} : im_D g 174 147 (.aload_n 0) 148 := im_D.of (by decide +kernel)
theorem D174_148 {g : im_g} : im_D g 174 148 (.aload_n 1) 149 := im_D.of (by decide +kernel)
theorem D174_149 {g : im_g} : im_D g 174 149 (.iload 5) 151 := im_D.of (by decide +kernel)
theorem D174_151 {g : im_g} : im_D g 174 151 (.iload 6) 153 := im_D.of (by decide +kernel)
theorem D174_153 {g : im_g} : im_D g 174 153 (.invokevirtual 91) 156 := im_D.of (by decide +kernel)
theorem D174_156 {g : im_g} : im_D g 174 156 (.iinc 4 1) 159 := im_D.of (by decide +kernel)
theorem D174_159 {g : im_g} : im_D g 174 159 (.goto (-142)) 162 := im_D.of (by decide +kernel)
theorem D174_162 {g : im_g} : im_D g 174 162 (.return_) 163 := im_D.of (by decide +kernel)
theorem D175_0 {g : im_g} : im_D g 175 0 (.aload_n 0) 1 := im_D.of (by decide +kernel)
theorem D175_1 {g : im_g} : im_D g 175 1 (.getfield 68) 4 := im_D.of (by decide +kernel)
theorem D175_4 {g : im_g} : im_D g 175 4 (.sipush 1024) 7 := im_D.of (by decide +kernel)
theorem D175_7 {g : im_g} : im_D g 175 7 (.if_icmp .ge 33) 10 := im_D.of (by decide +kernel)
theorem D175_10 {g : im_g} : im_D g 175 10 (.aload_n 0) 11 := im_D.of (by decide +kernel)
theorem D175_11 {g : im_g} : im_D g 175 11 (.getfield 15) 14 := im_D.of (by decide +kernel)
theorem D175_14 {g : im_g} : im_D g 175 14 (.aload_n 0) 15 := im_D.of (by decide +kernel)
theorem D175_15 {g : im_g} : im_D g 175 15 (.getfield 68) 18 := im_D.of (by decide +kernel)
theorem D175_18 {g : im_g} : im_D g 175 18 (.iload_n 1) 19 := im_D.of (by decide +kernel)
theorem D175_19 {g : im_g} : im_D g 175 19 (.iastore) 20 := im_D.of (by decide +kernel)
theorem D175_20 {g : im_g} : im_D g 175 20 (.aload_n 0) 21 := im_D.of (by decide +kernel)
theorem D175_21 {g : im_g} : im_D g 175 21 (.getfield 19) 24 := im_D.of (by decide +kernel)
theorem D175_24 {g : im_g} : im_D g 175 24 (.aload_n 0) 25 := im_D.of (by decide +kernel)
theorem D175_25 {g : im_g} : im_D g 175 25 (.getfield 68) 28 := im_D.of (by decide +kernel)
theorem D175_28 {g : im_g} : im_D g 175 28 (.iload_n 2) 29 := im_D.of (by decide +kernel)
theorem D175_29 {g : im_g} : im_D g 175 29 (.iastore) 30 := im_D.of (by decide +kernel)
theorem D175_30 {g : im_g} : im_D g 175 30 (.aload_n 0) 31 := im_D.of (by decide +kernel)
theorem D175_31 {g : im_g} : im_D g 175 31 (.dup) 32 := im_D.of (by decide +kernel)
theorem D175_32 {g : im_g} : im_D g 175 32 (.getfield 68) 35 := im_D.of (by decide +kernel)
theorem D175_35 {g : im_g} : im_D g 175 35 (.iconst 1) 36 := im_D.of (by decide +kernel)
theorem D175_36 {g : im_g} : im_D g 175 36 (.iadd) 37 := im_D.of (by decide +kernel)
theorem D175_37 {g : im_g} : im_D g 175 37 (.putfield 68) 40 := im_D.of (by decide +kernel)
theorem D175_40 {g : im_g} : im_D g 175 40 (.return_) 41 := im_D.of (by decide +kernel)
theorem D176_0 {g : im_g} : im_D g 176 0 (.aload_n 1) 1 := im_D.of (by decide +kernel)
theorem D176_1 {g : im_g} : im_D g 176 1 (.getfield 75) 4 := im_D.of (by decide +kernel)
theorem D176_4 {g : im_g} : im_D g 176 4 (.iload_n 2) 5 := im_D.of (by decide +kernel)
theorem D176_5 {g : im_g} : im_D g 176 5 (.iaload) 6 := im_D.of (by decide +kernel)
theorem D176_6 {g : im_g} : im_D g 176 6 (.istore_n 3) 7 := im_D.of (by decide +kernel)
theorem D176_7 {g : im_g} : im_D g 176 7 (.iload_n 3) 8 := im_D.of (by decide +kernel)
theorem D176_8 {g : im_g} : im_D g 176 8 (.bipush 34) 10 := im_D.of (by decide +kernel)
theorem D176_10 {g : im_g} : im_D g 176 10 (.if_icmp .ne 29) 13 := im_D.of (by decide +kernel)
theorem D176_13 {g : im_g} : im_D g 176 13 (.aload_n 1) 14 := im_D.of (by decide +kernel)
theorem D176_14 {g : im_g} : im_D g 176 14 (.aload_n 1) 15 := im_D.of (by decide +kernel)
theorem D176_15 {g : im_g} : im_D g 176 15 (.getfield 95) 18 := im_D.of (by decide +kernel)
theorem D176_18 {g : im_g} : im_D g 176 18 (.iload_n 2) 19 := im_D.of (by decide +kernel)
theorem D176_19 {g : im_g} : im_D g 176 19 (.iaload) 20 := im_D.of (by decide +kernel)
theorem D176_20 {g : im_g} : im_D g 176 20 (.aload_n 0) 21 := im_D.of (by decide +kernel)
theorem D176_21 {g : im_g} : im_D g 176 21 (.getfield 25) 24 := im_D.of (by decide +kernel)
theorem D176_24 {g : im_g} : im_D g 176 24 (.invokevirtual 98) 27 := im_D.of (by decide +kernel)
theorem D176_27 {g : im_g} : im_D g 176 27 (.pop) 28 := im_D.of (by decide +kernel)
theorem D176_28 {g : im_g} : im_D g 176 28 (.aload_n 0) 29 := im_D.of (by decide +kernel)
theorem D176_29 {g : im_g} : im_D g 176 29 (.aload_n 0) 30 := im_D.of (by decide +kernel)
theorem D176_30 {g : im_g} : im_D g 176 30 (.getfield 25) 33 := im_D.of (by decide +kernel)
theorem D176_33 {g : im_g} : im_D g 176 33 (.invokevirtual 64) 36 := im_D.of (by decide +kernel)
theorem D176_36 {g : im_g} : im_D g 176 36 (.goto 27) 39 := im_D.of (by decide +kernel)
theorem D176_39 {g : im_g} : im_D g 176 39 (.iload_n 3) 40 := im_D.of (by decide +kernel)
theorem D176_40 {g : im_g} : im_D g 176 40 (.bipush 35) 42 := im_D.of (by decide +kernel)
theorem D176_42 {g : im_g} : im_D g 176 42 (.if_icmp .ne 16) 45 := im_D.of (by decide +kernel)
theorem D176_45 {g : im_g} : im_D g 176 45 (.aload_n 0) 46 := im_D.of (by decide +kernel)
theorem D176_46 {g : im_g} : im_D g 176 46 (.aload_n 1) 47 := im_D.of (by decide +kernel)
theorem D176_47 {g : im_g} : im_D g 176 47 (.getfield 102) 50 := im_D.of (by decide +kernel)
theorem D176_50 {g : im_g} : im_D g 176 50 (.iload_n 2) 51 := im_D.of (by decide +kernel)
theorem D176_51 {g : im_g} : im_D g 176 51 (.laload) 52 := im_D.of (by decide +kernel)
theorem D176_52 {g : im_g} : im_D g 176 52 (.invokevirtual 105) 55 := im_D.of (by decide +kernel)
theorem D176_55 {g : im_g} : im_D g 176 55 (.goto 8) 58 := im_D.of (by decide +kernel)
theorem D176_58 {g : im_g} : im_D g 176 58 (.aload_n 0) 59 := im_D.of (by decide +kernel)
theorem D176_59 {g : im_g} : im_D g 176 59 (.iload_n 3) 60 := im_D.of (by decide +kernel)
theorem D176_60 {g : im_g} : im_D g 176 60 (.invokevirtual 88) 63 := im_D.of (by decide +kernel)
theorem D176_63 {g : im_g} : im_D g 176 63 (.iload_n 3) 64 := im_D.of (by decide +kernel)
theorem D176_64 {g : im_g} : im_D g 176 64 (.invokestatic 108) 67 := im_D.of (by decide +kernel)
theorem D176_67 {g : im_g} : im_D g 176 67 (.astore 4) 69 := im_D.of (by decide +kernel)
theorem D176_69 {g : im_g} : im_D g 176 69 (.aload 4) 71 := im_D.of (by decide +kernel)
theorem D176_71 {g : im_g} : im_D g 176 71 (.invokevirtual 112) 74 := im_D.of (by decide +kernel)
theorem D176_74 {g : im_g} : im_D g 176 74 (.iconst 1) 75 := im_D.of (by decide +kernel)
theorem D176_75 {g : im_g} : im_D g 176 75 (.isub) 76 := im_D.of (by decide +kernel)
theorem D176_76 {g : im_g} : im_D g 176 76 (.istore 5) 78 := im_D.of (by decide +kernel)
theorem D176_78 {g : im_g} : im_D g 176 78 (.iload 5) 80 := im_D.of (by decide +kernel)
theorem D176_80 {g : im_g} : im_D g 176 80 (.ifCond .lt 21) 83 := im_D.of (by decide +kernel)
theorem D176_83 {g : im_g} : im_D g 176 83 (.aload_n 0) 84 := im_D.of (by decide +kernel)
theorem D176_84 {g : im_g} : im_D g 176 84 (.aload 4) 86 := im_D.of (by decide +kernel)
theorem D176_86 {g : im_g} : im_D g 176 86 (.iload 5) 88 := im_D.of (by decide +kernel)
theorem D176_88 {g : im_g} : im_D g 176 88 (.invokevirtual 118) 91 := im_D.of (by decide +kernel)
theorem D176_91 {g : im_g} : im_D g 176 91 (.iload_n 2) 92 := im_D.of (by decide +kernel)
theorem D176_92 {g : im_g} : im_D g 176 92 (.invokevirtual 71) 95 := im_D.of (by decide +kernel)
theorem D176_95 {g : im_g} : im_D g 176 95 (.iinc 5 (-1)) 98 := im_D.of (by decide +kernel)
theorem D176_98 {g : im_g} : im_D g 176 98 (.goto (-20)) 101 := im_D.of (by decide +kernel)
theorem D176_101 {g : im_g} : im_D g 176 101 (.return_) 102 := im_D.of (by decide +kernel)
theorem D177_0 {g : im_g} : im_D g 177 0 (.aload_n 0) 1 := im_D.of (by decide +kernel)
theorem D177_1 {g : im_g} : im_D g 177 1 (.invokevirtual 41) 4 := im_D.of (by decide +kernel)
theorem D177_4 {g : im_g} : im_D g 177 4 (.aload_n 1) 5 := im_D.of (by decide +kernel)
theorem D177_5 {g : im_g} : im_D g 177 5 (.getfield 51) 8 := im_D.of (by decide +kernel)
theorem D177_8 {g : im_g} : im_D g 177 8 (.ifCond .ge 9) 11 := im_D.of (by decide +kernel)
theorem D177_11 {g : im_g} : im_D g 177 11 (.aload_n 0) 12 := im_D.of (by decide +kernel)
theorem D177_12 {g : im_g} : im_D g 177 12 (.bipush 45) 14 := im_D.of (by decide +kernel)
theorem D177_14 {g : im_g} : im_D g 177 14 (.invokevirtual 37) 17 := im_D.of (by decide +kernel)
theorem D177_17 {g : im_g} : im_D g 177 17 (.aload_n 1) 18 := im_D.of (by decide +kernel)
theorem D177_18 {g : im_g} : im_D g 177 18 (.getfield 51) 21 := im_D.of (by decide +kernel)
theorem D177_21 {g : im_g} : im_D g 177 21 (.ifCond .ne 9) 24 := im_D.of (by decide +kernel)
theorem D177_24 {g : im_g} : im_D g 177 24 (.aload_n 0) 25 := im_D.of (by decide +kernel)
theorem D177_25 {g : im_g} : im_D g 177 25 (.bipush 48) 27 := im_D.of (by decide +kernel)
theorem D177_27 {g : im_g} : im_D g 177 27 (.invokevirtual 37) 30 := im_D.of (by decide +kernel)
theorem D177_30 {g : im_g} : im_D g 177 30 (.iconst 0) 31 := im_D.of (by decide +kernel)
theorem D177_31 {g : im_g} : im_D g 177 31 (.istore_n 2) 32 := im_D.of (by decide +kernel)
theorem D177_32 {g : im_g} : im_D g 177 32 (.aload_n 1) 33 := im_D.of (by decide +kernel)
theorem D177_33 {g : im_g} : im_D g 177 33 (.getfield 54) 36 := im_D.of (by decide +kernel)
theorem D177_36 {g : im_g} : im_D g 177 36 (.iconst 1) 37 := im_D.of (by decide +kernel)
theorem D177_37 {g : im_g} : im_D g 177 37 (.isub) 38 := im_D.of (by decide +kernel)
theorem D177_38 {g : im_g} : im_D g 177 38 (.istore_n 3) 39 := im_D.of (by decide +kernel)
theorem D177_39 {g : im_g} : im_D g 177 39 (.iload_n 3) 40 := im_D.of (by decide +kernel)
theorem D177_40 {g : im_g} : im_D g 177 40 (.ifCond .lt 70) 43 := im_D.of (by decide +kernel)
theorem D177_43 {g : im_g} : im_D g 177 43 (.ldc 57) 45 := im_D.of (by decide +kernel)
theorem D177_45 {g : im_g} : im_D g 177 45 (.istore 4) 47 := im_D.of (by decide +kernel)
theorem D177_47 {g : im_g} : im_D g 177 47 (.iload 4) 49 := im_D.of (by decide +kernel)
theorem D177_49 {g : im_g} : im_D g 177 49 (.ifCond .le 55) 52 := im_D.of (by decide +kernel)
theorem D177_52 {g : im_g} : im_D g 177 52 (.aload_n 1) 53 := im_D.of (by decide +kernel)
theorem D177_53 {g : im_g} : im_D g 177 53 (.getfield 58) 56 := im_D.of (by decide +kernel)
theorem D177_56 {g : im_g} : im_D g 177 56 (.iload_n 3) 57 := im_D.of (by decide +kernel)
theorem D177_57 {g : im_g} : im_D g 177 57 (.iaload) 58 := im_D.of (by decide +kernel)
theorem D177_58 {g : im_g} : im_D g 177 58 (.iload 4) 60 := im_D.of (by decide +kernel)
theorem D177_60 {g : im_g} : im_D g 177 60 (.idiv) 61 := im_D.of (by decide +kernel)
theorem D177_61 {g : im_g} : im_D g 177 61 (.bipush 10) 63 := im_D.of (by decide +kernel)
theorem D177_63 {g : im_g} : im_D g 177 63 (.irem) 64 := im_D.of (by decide +kernel)
theorem D177_64 {g : im_g} : im_D g 177 64 (.istore 5) 66 := im_D.of (by decide +kernel)
theorem D177_66 {g : im_g} : im_D g 177 66 (.iload_n 2) 67 := im_D.of (by decide +kernel)
theorem D177_67 {g : im_g} : im_D g 177 67 (.ifCond .ne 8) 70 := im_D.of (by decide +kernel)
theorem D177_70 {g : im_g} : im_D g 177 70 (.iload 5) 72 := im_D.of (by decide +kernel)
theorem D177_72 {g : im_g} : im_D g 177 72 (.ifCond .eq 7) 75 := im_D.of (by decide +kernel)
theorem D177_75 {g : im_g} : im_D g 177 75 (.iconst 1) 76 := im_D.of (by decide +kernel)
theorem D177_76 {g : im_g} : im_D g 177 76 (.goto 4) 79 := im_D.of (by decide +kernel)
theorem D177_79 {g : im_g} : im_D g 177 79 (.iconst 0) 80 := im_D.of (by decide +kernel)
theorem D177_80 {g : im_g} : im_D g 177 80 (.istore_n 2) 81 := im_D.of (by decide +kernel)
theorem D177_81 {g : im_g} : im_D g 177 81 (.iload_n 2) 82 := im_D.of (by decide +kernel)
theorem D177_82 {g : im_g} : im_D g 177 82 (.ifCond .eq 12) 85 := im_D.of (by decide +kernel)
theorem D177_85 {g : im_g} : im_D g 177 85 (.aload_n 0) 86 := im_D.of (by decide +kernel)
theorem D177_86 {g : im_g} : im_D g 177 86 (.bipush 48) 88 := im_D.of (by decide +kernel)
theorem D177_88 {g : im_g} : im_D g 177 88 (.iload 5) 90 := im_D.of (by decide +kernel)
theorem D177_90 {g : im_g} : im_D g 177 90 (.iadd) 91 := im_D.of (by decide +kernel)
theorem D177_91 {g : im_g} : im_D g 177 91 (.invokevirtual 37) 94 := im_D.of (by decide +kernel)
theorem D177_94 {g : im_g} : im_D g 177 94 (.iload 4) 96 := im_D.of (by decide +kernel)
theorem D177_96 {g : im_g} : im_D g 177 96 (.bipush 10) 98 := im_D.of (by decide +kernel)
theorem D177_98 {g : im_g} : im_D g 177 98 (.idiv) 99 := im_D.of (by decide +kernel)
theorem D177_99 {g : im_g} : im_D g 177 99 (.istore 4) 101 := im_D.of (by decide +kernel)
theorem D177_101 {g : im_g} : im_D g 177 101 (.goto (-54)) 104 := im_D.of (by decide +kernel)
theorem D177_104 {g : im_g} : im_D g 177 104 (.iinc 3 (-1)) 107 := im_D.of (by decide +kernel)
theorem D177_107 {g : im_g} : im_D g 177 107 (.goto (-68)) 110 := im_D.of (by decide +kernel)
theorem D177_110 {g : im_g} : im_D g 177 110 (.return_) 111 := im_D.of (by decide +kernel)
theorem D178_0 {g : im_g} : im_D g 178 0 (.aload_n 0) 1 := im_D.of (by decide +kernel)
theorem D178_1 {g : im_g} : im_D g 178 1 (.getfield 33) 4 := im_D.of (by decide +kernel)
theorem D178_4 {g : im_g} : im_D g 178 4 (.ifCond .le 9) 7 := im_D.of (by decide +kernel)
theorem D178_7 {g : im_g} : im_D g 178 7 (.aload_n 0) 8 := im_D.of (by decide +kernel)
theorem D178_8 {g : im_g} : im_D g 178 8 (.bipush 32) 10 := im_D.of (by decide +kernel)
theorem D178_10 {g : im_g} : im_D g 178 10 (.invokevirtual 37) 13 := im_D.of (by decide +kernel)
theorem D178_13 {g : im_g} : im_D g 178 13 (.return_) 14 := im_D.of (by decide +kernel)
theorem D179_0 {g : im_g} : im_D g 179 0 (.aload_n 0) 1 := im_D.of (by decide +kernel)
theorem D179_1 {g : im_g} : im_D g 179 1 (.bipush 63) 3 := im_D.of (by decide +kernel)
theorem D179_3 {g : im_g} : im_D g 179 3 (.invokevirtual 122) 6 := im_D.of (by decide +kernel)
theorem D179_6 {g : im_g} : im_D g 179 6 (.aload_n 0) 7 := im_D.of (by decide +kernel)
theorem D179_7 {g : im_g} : im_D g 179 7 (.lload_n 1) 8 := im_D.of (by decide +kernel)
theorem D179_8 {g : im_g} : im_D g 179 8 (.invokevirtual 44) 11 := im_D.of (by decide +kernel)
theorem D179_11 {g : im_g} : im_D g 179 11 (.return_) 12 := im_D.of (by decide +kernel)
theorem D180_0 {g : im_g} : im_D g 180 0 (.aload_n 0) 1 := im_D.of (by decide +kernel)
theorem D180_1 {g : im_g} : im_D g 180 1 (.invokevirtual 41) 4 := im_D.of (by decide +kernel)
theorem D180_4 {g : im_g} : im_D g 180 4 (.aload_n 0) 5 := im_D.of (by decide +kernel)
theorem D180_5 {g : im_g} : im_D g 180 5 (.iload_n 1) 6 := im_D.of (by decide +kernel)
theorem D180_6 {g : im_g} : im_D g 180 6 (.invokevirtual 37) 9 := im_D.of (by decide +kernel)
theorem D180_9 {g : im_g} : im_D g 180 9 (.return_) 10 := im_D.of (by decide +kernel)
theorem D181_0 {g : im_g} : im_D g 181 0 (.bipush 56) 2 := im_D.of (by decide +kernel)
theorem D181_2 {g : im_g} : im_D g 181 2 (.istore_n 3) 3 := im_D.of (by decide +kernel)
theorem D181_3 {g : im_g} : im_D g 181 3 (.iload_n 3) 4 := im_D.of (by decide +kernel)
theorem D181_4 {g : im_g} : im_D g 181 4 (.ifCond .lt 25) 7 := im_D.of (by decide +kernel)
theorem D181_7 {g : im_g} : im_D g 181 7 (.lload_n 1) 8 := im_D.of (by decide +kernel)
theorem D181_8 {g : im_g} : im_D g 181 8 (.iload_n 3) 9 := im_D.of (by decide +kernel)
theorem D181_9 {g : im_g} : im_D g 181 9 (.lushr) 10 := im_D.of (by decide +kernel)
theorem D181_10 {g : im_g} : im_D g 181 10 (.lconst 0) 11 := im_D.of (by decide +kernel)
theorem D181_11 {g : im_g} : im_D g 181 11 (.lcmp) 12 := im_D.of (by decide +kernel)
theorem D181_12 {g : im_g} : im_D g 181 12 (.ifCond .eq 11) 15 := im_D.of (by decide +kernel)
theorem D181_15 {g : im_g} : im_D g 181 15 (.aload_n 0) 16 := im_D.of (by decide +kernel)
theorem D181_16 {g : im_g} : im_D g 181 16 (.lload_n 1) 17 := im_D.of (by decide +kernel)
theorem D181_17 {g : im_g} : im_D g 181 17 (.iload_n 3) 18 := im_D.of (by decide +kernel)
theorem D181_18 {g : im_g} : im_D g 181 18 (.lushr) 19 := im_D.of (by decide +kernel)
theorem D181_19 {g : im_g} : im_D g 181 19 (.l2i) 20 := im_D.of (by decide +kernel)
theorem D181_20 {g : im_g} : im_D g 181 20 (.invokevirtual 37) 23 := im_D.of (by decide +kernel)
theorem D181_23 {g : im_g} : im_D g 181 23 (.iinc 3 (-8)) 26 := im_D.of (by decide +kernel)
theorem D181_26 {g : im_g} : im_D g 181 26 (.goto (-23)) 29 := im_D.of (by decide +kernel)
theorem D181_29 {g : im_g} : im_D g 181 29 (.return_) 30 := im_D.of (by decide +kernel)
theorem D182_0 {g : im_g} : im_D g 182 0 (.iload_n 1) 1 := im_D.of (by decide +kernel)
theorem D182_1 {g : im_g} : im_D g 182 1 (.ifCond .lt 19) 4 := im_D.of (by decide +kernel)
theorem D182_4 {g : im_g} : im_D g 182 4 (.iload_n 1) 5 := im_D.of (by decide +kernel)
theorem D182_5 {g : im_g} : im_D g 182 5 (.bipush 34) 7 := im_D.of (by decide +kernel)
theorem D182_7 {g : im_g} : im_D g 182 7 (.if_icmp .ge 13) 10 := im_D.of (by decide +kernel)
theorem D182_10 {g : im_g} : im_D g 182 10 (.aload_n 0) 11 := im_D.of (by decide +kernel)
theorem D182_11 {g : im_g} : im_D g 182 11 (.aload_n 0) 12 := im_D.of (by decide +kernel)
theorem D182_12 {g : im_g} : im_D g 182 12 (.getfield 29) 15 := im_D.of (by decide +kernel)
theorem D182_15 {g : im_g} : im_D g 182 15 (.iload_n 1) 16 := im_D.of (by decide +kernel)
theorem D182_16 {g : im_g} : im_D g 182 16 (.laload) 17 := im_D.of (by decide +kernel)
theorem D182_17 {g : im_g} : im_D g 182 17 (.invokevirtual 48) 20 := im_D.of (by decide +kernel)
theorem D182_20 {g : im_g} : im_D g 182 20 (.return_) 21 := im_D.of (by decide +kernel)
theorem D183_0 {g : im_g} : im_D g 183 0 (.aload_n 0) 1 := im_D.of (by decide +kernel)
theorem D183_1 {g : im_g} : im_D g 183 1 (.invokevirtual 41) 4 := im_D.of (by decide +kernel)
theorem D183_4 {g : im_g} : im_D g 183 4 (.aload_n 0) 5 := im_D.of (by decide +kernel)
theorem D183_5 {g : im_g} : im_D g 183 5 (.lload_n 1) 6 := im_D.of (by decide +kernel)
theorem D183_6 {g : im_g} : im_D g 183 6 (.invokevirtual 44) 9 := im_D.of (by decide +kernel)
theorem D183_9 {g : im_g} : im_D g 183 9 (.return_) 10 := im_D.of (by decide +kernel)
theorem D184_0 {g : im_g} : im_D g 184 0 (.iload_n 2) 1 := im_D.of (by decide +kernel)
theorem D184_1 {g : im_g} : im_D g 184 1 (.lookupswitch 157 #[(49, 67), (50, 80), (51, 93), (91, 130), (98, 148), (100, 106), (107, 139)]) 2 := im_D.of (by decide +kernel)
theorem D184_68 {g : im_g} : im_D g 184 68 (.aload_n 0) 69 := im_D.of (by decide +kernel)
theorem D184_69 {g : im_g} : im_D g 184 69 (.aload_n 1) 70 := im_D.of (by decide +kernel)
theorem D184_70 {g : im_g} : im_D g 184 70 (.getfield 102) 73 := im_D.of (by decide +kernel)
theorem D184_73 {g : im_g} : im_D g 184 73 (.iload_n 3) 74 := im_D.of (by decide +kernel)
theorem D184_74 {g : im_g} : im_D g 184 74 (.laload) 75 := im_D.of (by decide +kernel)
theorem D184_75 {g : im_g} : im_D g 184 75 (.invokevirtual 48) 78 := im_D.of (by decide +kernel)
theorem D184_78 {g : im_g} : im_D g 184 78 (.goto 86) 81 := im_D.of (by decide +kernel)
theorem D184_81 {g : im_g} : im_D g 184 81 (.aload_n 0) 82 := im_D.of (by decide +kernel)
theorem D184_82 {g : im_g} : im_D g 184 82 (.aload_n 1) 83 := im_D.of (by decide +kernel)
theorem D184_83 {g : im_g} : im_D g 184 83 (.getfield 124) 86 := im_D.of (by decide +kernel)
theorem D184_86 {g : im_g} : im_D g 184 86 (.iload_n 3) 87 := im_D.of (by decide +kernel)
theorem D184_87 {g : im_g} : im_D g 184 87 (.laload) 88 := im_D.of (by decide +kernel)
theorem D184_88 {g : im_g} : im_D g 184 88 (.invokevirtual 48) 91 := im_D.of (by decide +kernel)
theorem D184_91 {g : im_g} : im_D g 184 91 (.goto 73) 94 := im_D.of (by decide +kernel)
theorem D184_94 {g : im_g} : im_D g 184 94 (.aload_n 0) 95 := im_D.of (by decide +kernel)
theorem D184_95 {g : im_g} : im_D g 184 95 (.aload_n 1) 96 := im_D.of (by decide +kernel)
theorem D184_96 {g : im_g} : im_D g 184 96 (.getfield 127) 99 := im_D.of (by decide +kernel)
theorem D184_99 {g : im_g} : im_D g 184 99 (.iload_n 3) 100 := im_D.of (by decide +kernel)
theorem D184_100 {g : im_g} : im_D g 184 100 (.laload) 101 := im_D.of (by decide +kernel)
theorem D184_101 {g : im_g} : im_D g 184 101 (.invokevirtual 48) 104 := im_D.of (by decide +kernel)
theorem D184_104 {g : im_g} : im_D g 184 104 (.goto 60) 107 := im_D.of (by decide +kernel)
theorem D184_107 {g : im_g} : im_D g 184 107 (.aload_n 0) 108 := im_D.of (by decide +kernel)
theorem D184_108 {g : im_g} : im_D g 184 108 (.aload_n 1) 109 := im_D.of (by decide +kernel)
theorem D184_109 {g : im_g} : im_D g 184 109 (.getfield 95) 112 := im_D.of (by decide +kernel)
theorem D184_112 {g : im_g} : im_D g 184 112 (.iload_n 3) 113 := im_D.of (by decide +kernel)
theorem D184_113 {g : im_g} : im_D g 184 113 (.iaload) 114 := im_D.of (by decide +kernel)
theorem D184_114 {g : im_g} : im_D g 184 114 (.iconst 1) 115 := im_D.of (by decide +kernel)
theorem D184_115 {g : im_g} : im_D g 184 115 (.if_icmp .ne 8) 118 := im_D.of (by decide +kernel)
theorem D184_118 {g : im_g} : im_D g 184 118 (.bipush 33) 120 := im_D.of (by decide +kernel)
theorem D184_120 {g : im_g} : im_D g 184 120 (.goto 5) 123 := im_D.of (by decide +kernel)
theorem D184_123 {g : im_g} : im_D g 184 123 (.bipush 32) 125 := im_D.of (by decide +kernel)
theorem D184_125 {g : im_g} : im_D g 184 125 (.invokevirtual 88) 128 := im_D.of (by decide +kernel)
theorem D184_128 {g : im_g} : im_D g 184 128 (.goto 36) 131 := im_D.of (by decide +kernel)
theorem D184_131 {g : im_g} : im_D g 184 131 (.aload_n 0) 132 := im_D.of (by decide +kernel)
theorem D184_132 {g : im_g} : im_D g 184 132 (.bipush 91) 134 := im_D.of (by decide +kernel)
theorem D184_134 {g : im_g} : im_D g 184 134 (.invokevirtual 122) 137 := im_D.of (by decide +kernel)
theorem D184_137 {g : im_g} : im_D g 184 137 (.goto 27) 140 := im_D.of (by decide +kernel)
theorem D184_140 {g : im_g} : im_D g 184 140 (.aload_n 0) 141 := im_D.of (by decide +kernel)
theorem D184_141 {g : im_g} : im_D g 184 141 (.bipush 93) 143 := im_D.of (by decide +kernel)
theorem D184_143 {g : im_g} : im_D g 184 143 (.invokevirtual 122) 146 := im_D.of (by decide +kernel)
theorem D184_146 {g : im_g} : im_D g 184 146 (.goto 18) 149 := im_D.of (by decide +kernel)
theorem D184_149 {g : im_g} : im_D g 184 149 (.aload_n 0) 150 := im_D.of (by decide +kernel)
theorem D184_150 {g : im_g} : im_D g 184 150 (.aload_n 1) 151 := im_D.of (by decide +kernel)
theorem D184_151 {g : im_g} : im_D g 184 151 (.iload_n 3) 152 := im_D.of (by decide +kernel)
theorem D184_152 {g : im_g} : im_D g 184 152 (.invokevirtual 130) 155 := im_D.of (by decide +kernel)
theorem D184_155 {g : im_g} : im_D g 184 155 (.goto 9) 158 := im_D.of (by decide +kernel)
theorem D184_158 {g : im_g} : im_D g 184 158 (.aload_n 0) 159 := im_D.of (by decide +kernel)
theorem D184_159 {g : im_g} : im_D g 184 159 (.aload_n 1) 160 := im_D.of (by decide +kernel)
theorem D184_160 {g : im_g} : im_D g 184 160 (.iload_n 3) 161 := im_D.of (by decide +kernel)
theorem D184_161 {g : im_g} : im_D g 184 161 (.invokevirtual 133) 164 := im_D.of (by decide +kernel)
theorem D184_164 {g : im_g} : im_D g 184 164 (.return_) 165 := im_D.of (by decide +kernel)
theorem D185_0 {g : im_g} : im_D g 185 0 (.aload_n 1) 1 := im_D.of (by decide +kernel)
theorem D185_1 {g : im_g} : im_D g 185 1 (.getfield 95) 4 := im_D.of (by decide +kernel)
theorem D185_4 {g : im_g} : im_D g 185 4 (.iload_n 2) 5 := im_D.of (by decide +kernel)
theorem D185_5 {g : im_g} : im_D g 185 5 (.iaload) 6 := im_D.of (by decide +kernel)
theorem D185_6 {g : im_g} : im_D g 185 6 (.istore_n 3) 7 := im_D.of (by decide +kernel)
theorem D185_7 {g : im_g} : im_D g 185 7 (.iconst 0) 8 := im_D.of (by decide +kernel)
theorem D185_8 {g : im_g} : im_D g 185 8 (.istore 4) 10 := im_D.of (by decide +kernel)
theorem D185_10 {g : im_g} : im_D g 185 10 (.iload 4) 12 := im_D.of (by decide +kernel)
theorem D185_12 {g : im_g} : im_D g 185 12 (.i2l) 13 := im_D.of (by decide +kernel)
theorem D185_13 {g : im_g} : im_D g 185 13 (.ldc2_w 136) 16 := im_D.of (by decide +kernel)
theorem D185_16 {g : im_g} : im_D g 185 16 (.aload_n 1) 17 := im_D.of (by decide +kernel)
theorem D185_17 {g : im_g} : im_D g 185 17 (.getfield 127) 20 := im_D.of (by decide +kernel)
theorem D185_20 {g : im_g} : im_D g 185 20 (.iload_n 2) 21 := im_D.of (by decide +kernel)
theorem D185_21 {g : im_g} : im_D g 185 21 (.laload) 22 := im_D.of (by decide +kernel)
theorem D185_22 {g : im_g} : im_D g 185 22 (.lmul) 23 := im_D.of (by decide +kernel)
theorem D185_23 {g : im_g} : im_D g 185 23 (.lcmp) 24 := im_D.of (by decide +kernel)
theorem D185_24 {g : im_g} : im_D g 185 24 (.ifCond .ge 27) 27 := im_D.of (by decide +kernel)
theorem D185_27 {g : im_g} : im_D g 185 27 (.aload_n 1) 28 := im_D.of (by decide +kernel)
theorem D185_28 {g : im_g} : im_D g 185 28 (.iload_n 3) 29 := im_D.of (by decide +kernel)
theorem D185_29 {g : im_g} : im_D g 185 29 (.aload_n 0) 30 := im_D.of (by decide +kernel)
theorem D185_30 {g : im_g} : im_D g 185 30 (.getfield 25) 33 := im_D.of (by decide +kernel)
theorem D185_33 {g : im_g} : im_D g 185 33 (.invokevirtual 98) 36 := im_D.of (by decide +kernel)
theorem D185_36 {g : im_g} : im_D g 185 36 (.istore_n 3) 37 := im_D.of (by decide +kernel)
theorem D185_37 {g : im_g} : im_D g 185 37 (.aload_n 0) 38 := im_D.of (by decide +kernel)
theorem D185_38 {g : im_g} : im_D g 185 38 (.aload_n 0) 39 := im_D.of (by decide +kernel)
theorem D185_39 {g : im_g} : im_D g 185 39 (.getfield 25) 42 := im_D.of (by decide +kernel)
theorem D185_42 {g : im_g} : im_D g 185 42 (.invokevirtual 64) 45 := im_D.of (by decide +kernel)
theorem D185_45 {g : im_g} : im_D g 185 45 (.iinc 4 1) 48 := im_D.of (by decide +kernel)
theorem D185_48 {g : im_g} : im_D g 185 48 (.goto (-38)) 51 := im_D.of (by decide +kernel)
theorem D185_51 {g : im_g} : im_D g 185 51 (.aload_n 0) 52 := im_D.of (by decide +kernel)
theorem D185_52 {g : im_g} : im_D g 185 52 (.bipush 93) 54 := im_D.of (by decide +kernel)
theorem D185_54 {g : im_g} : im_D g 185 54 (.invokevirtual 122) 57 := im_D.of (by decide +kernel)
theorem D185_57 {g : im_g} : im_D g 185 57 (.return_) 58 := im_D.of (by decide +kernel)
theorem D186_0 {g : im_g} : im_D g 186 0 (.aload_n 1) 1 := im_D.of (by decide +kernel)
theorem D186_1 {g : im_g} : im_D g 186 1 (.getfield 124) 4 := im_D.of (by decide +kernel)
theorem D186_4 {g : im_g} : im_D g 186 4 (.iload_n 2) 5 := im_D.of (by decide +kernel)
theorem D186_5 {g : im_g} : im_D g 186 5 (.laload) 6 := im_D.of (by decide +kernel)
theorem D186_6 {g : im_g} : im_D g 186 6 (.lconst 0) 7 := im_D.of (by decide +kernel)
theorem D186_7 {g : im_g} : im_D g 186 7 (.lcmp) 8 := im_D.of (by decide +kernel)
theorem D186_8 {g : im_g} : im_D g 186 8 (.ifCond .eq 16) 11 := im_D.of (by decide +kernel)
theorem D186_11 {g : im_g} : im_D g 186 11 (.aload_n 0) 12 := im_D.of (by decide +kernel)
theorem D186_12 {g : im_g} : im_D g 186 12 (.aload_n 1) 13 := im_D.of (by decide +kernel)
theorem D186_13 {g : im_g} : im_D g 186 13 (.getfield 124) 16 := im_D.of (by decide +kernel)
theorem D186_16 {g : im_g} : im_D g 186 16 (.iload_n 2) 17 := im_D.of (by decide +kernel)
theorem D186_17 {g : im_g} : im_D g 186 17 (.laload) 18 := im_D.of (by decide +kernel)
theorem D186_18 {g : im_g} : im_D g 186 18 (.invokevirtual 105) 21 := im_D.of (by decide +kernel)
theorem D186_21 {g : im_g} : im_D g 186 21 (.goto 13) 24 := im_D.of (by decide +kernel)
theorem D186_24 {g : im_g} : im_D g 186 24 (.aload_n 0) 25 := im_D.of (by decide +kernel)
theorem D186_25 {g : im_g} : im_D g 186 25 (.aload_n 1) 26 := im_D.of (by decide +kernel)
theorem D186_26 {g : im_g} : im_D g 186 26 (.getfield 102) 29 := im_D.of (by decide +kernel)
theorem D186_29 {g : im_g} : im_D g 186 29 (.iload_n 2) 30 := im_D.of (by decide +kernel)
theorem D186_30 {g : im_g} : im_D g 186 30 (.laload) 31 := im_D.of (by decide +kernel)
theorem D186_31 {g : im_g} : im_D g 186 31 (.invokevirtual 138) 34 := im_D.of (by decide +kernel)
theorem D186_34 {g : im_g} : im_D g 186 34 (.return_) 35 := im_D.of (by decide +kernel)
theorem D187_0 {g : im_g} : im_D g 187 0 (.aload_n 0) 1 := im_D.of (by decide +kernel)
theorem D187_1 {g : im_g} : im_D g 187 1 (.getfield 25) 4 := im_D.of (by decide +kernel)
theorem D187_4 {g : im_g} : im_D g 187 4 (.lload_n 1) 5 := im_D.of (by decide +kernel)
theorem D187_5 {g : im_g} : im_D g 187 5 (.invokevirtual 61) 8 := im_D.of (by decide +kernel)
theorem D187_8 {g : im_g} : im_D g 187 8 (.aload_n 0) 9 := im_D.of (by decide +kernel)
theorem D187_9 {g : im_g} : im_D g 187 9 (.aload_n 0) 10 := im_D.of (by decide +kernel)
theorem D187_10 {g : im_g} : im_D g 187 10 (.getfield 25) 13 := im_D.of (by decide +kernel)
theorem D187_13 {g : im_g} : im_D g 187 13 (.invokevirtual 64) 16 := im_D.of (by decide +kernel)
theorem D187_16 {g : im_g} : im_D g 187 16 (.return_) 17 := im_D.of (by decide +kernel)
theorem D189_0 {g : im_g} : im_D g 189 0 (.aload_n 0) 1 := im_D.of (by decide +kernel)
theorem D189_1 {g : im_g} : im_D g 189 1 (.invokevirtual 124) 4 := im_D.of (by decide +kernel)
theorem D189_4 {g : im_g} : im_D g 189 4 (.iload_n 1) 5 := im_D.of (by decide +kernel)
theorem D189_5 {g : im_g} : im_D g 189 5 (.bipush 16) 7 := im_D.of (by decide +kernel)
theorem D189_7 {g : im_g} : im_D g 189 7 (.invokestatic 183) 10 := im_D.of (by decide +kernel)
theorem D189_10 {g : im_g} : im_D g 189 10 (.iload_n 2) 11 := im_D.of (by decide +kernel)
theorem D189_11 {g : im_g} : im_D g 189 11 (.ifCond .lt 12) 14 := im_D.of (by decide +kernel)
theorem D189_14 {g : im_g} : im_D g 189 14 (.iload_n 2) 15 := im_D.of (by decide +kernel)
theorem D189_15 {g : im_g} : im_D g 189 15 (.iconst 4) 16 := im_D.of (by decide +kernel)
theorem D189_16 {g : im_g} : im_D g 189 16 (.if_icmp .gt 7) 19 := im_D.of (by decide +kernel)
theorem D189_19 {g : im_g} : im_D g 189 19 (.iconst 1) 20 := im_D.of (by decide +kernel)
theorem D189_20 {g : im_g} : im_D g 189 20 (.goto 4) 23 := im_D.of (by decide +kernel)
theorem D189_23 {g : im_g} : im_D g 189 23 (.iconst 0) 24 := im_D.of (by decide +kernel)
theorem D189_24 {g : im_g} : im_D g 189 24 (.invokestatic 195) 27 := im_D.of (by decide +kernel)
theorem D189_27 {g : im_g} : im_D g 189 27 (.aload_n 0) 28 := im_D.of (by decide +kernel)
theorem D189_28 {g : im_g} : im_D g 189 28 (.getfield 49) 31 := im_D.of (by decide +kernel)
theorem D189_31 {g : im_g} : im_D g 189 31 (.iload_n 1) 32 := im_D.of (by decide +kernel)
theorem D189_32 {g : im_g} : im_D g 189 32 (.iaload) 33 := im_D.of (by decide +kernel)
theorem D189_33 {g : im_g} : im_D g 189 33 (.iconst (-1)) 34 := im_D.of (by decide +kernel)
theorem D189_34 {g : im_g} : im_D g 189 34 (.if_icmp .eq 7) 37 := im_D.of (by decide +kernel)
theorem D189_37 {g : im_g} : im_D g 189 37 (.iconst 1) 38 := im_D.of (by decide +kernel)
theorem D189_38 {g : im_g} : im_D g 189 38 (.goto 4) 41 := im_D.of (by decide +kernel)
theorem D189_41 {g : im_g} : im_D g 189 41 (.iconst 0) 42 := im_D.of (by decide +kernel)
theorem D189_42 {g : im_g} : im_D g 189 42 (.invokestatic 187) 45 := im_D.of (by decide +kernel)
theorem D189_45 {g : im_g} : im_D g 189 45 (.iload_n 2) 46 := im_D.of (by decide +kernel)
theorem D189_46 {g : im_g} : im_D g 189 46 (.tableswitch 97 0 3 #[30, 44, 67, 82]) 47 := im_D.of (by decide +kernel)
theorem D189_76 {g : im_g} : im_D g 189 76 (.aload_n 0) 77 := im_D.of (by decide +kernel)
theorem D189_77 {g : im_g} : im_D g 189 77 (.getfield 36) 80 := im_D.of (by decide +kernel)
theorem D189_80 {g : im_g} : im_D g 189 80 (.aload_n 0) 81 := im_D.of (by decide +kernel)
theorem D189_81 {g : im_g} : im_D g 189 81 (.getfield 49) 84 := im_D.of (by decide +kernel)
theorem D189_84 {g : im_g} : im_D g 189 84 (.iload_n 1) 85 := im_D.of (by decide +kernel)
theorem D189_85 {g : im_g} : im_D g 189 85 (.iaload) 86 := im_D.of (by decide +kernel)
theorem D189_86 {g : im_g} : im_D g 189 86 (.invokevirtual 198) 89 := im_D.of (by decide +kernel)
theorem D189_89 {g : im_g} : im_D g 189 89 (.lreturn) 90 := im_D.of (by decide +kernel)
theorem D189_90 {g : im_g} : im_D g 189 90 (.aload_n 0) 91 := im_D.of (by decide +kernel)
theorem D189_91 {g : im_g} : im_D g 189 91 (.getfield 36) 94 := im_D.of (by decide +kernel)
theorem D189_94 {g : im_g} : im_D g 189 94 (.getfield 202) 97 := im_D.of (by decide +kernel)
theorem D189_97 {g : im_g} : im_D g 189 97 (.aload_n 0) 98 := im_D.of (by decide +kernel)
theorem D189_98 {g : im_g} : im_D g 189 98 (.getfield 49) 101 := im_D.of (by decide +kernel)
theorem D189_101 {g : im_g} : im_D g 189 101 (.iload_n 1) 102 := im_D.of (by decide +kernel)
theorem D189_102 {g : im_g} : im_D g 189 102 (.iaload) 103 := im_D.of (by decide +kernel)
theorem D189_103 {g : im_g} : im_D g 189 103 (.iaload) 104 := im_D.of (by decide +kernel)
theorem D189_104 {g : im_g} : im_D g 189 104 (.aload_n 0) 105 := im_D.of (by decide +kernel)
theorem D189_105 {g : im_g} : im_D g 189 105 (.getfield 49) 108 := im_D.of (by decide +kernel)
theorem D189_108 {g : im_g} : im_D g 189 108 (.iload_n 1) 109 := im_D.of (by decide +kernel)
theorem D189_109 {g : im_g} : im_D g 189 109 (.iaload) 110 := im_D.of (by decide +kernel)
theorem D189_110 {g : im_g} : im_D g 189 110 (.isub) 111 := im_D.of (by decide +kernel)
theorem D189_111 {g : im_g} : im_D g 189 111 (.i2l) 112 := im_D.of (by decide +kernel)
theorem D189_112 {g : im_g} : im_D g 189 112 (.lreturn) 113 := im_D.of (by decide +kernel)
theorem D189_113 {g : im_g} : im_D g 189 113 (.aload_n 0) 114 := im_D.of (by decide +kernel)
theorem D189_114 {g : im_g} : im_D g 189 114 (.getfield 36) 117 := im_D.of (by decide +kernel)
theorem D189_117 {g : im_g} : im_D g 189 117 (.aload_n 0) 118 := im_D.of (by decide +kernel)
theorem D189_118 {g : im_g} : im_D g 189 118 (.getfield 49) 121 := im_D.of (by decide +kernel)
theorem D189_121 {g : im_g} : im_D g 189 121 (.iload_n 1) 122 := im_D.of (by decide +kernel)
theorem D189_122 {g : im_g} : im_D g 189 122 (.iaload) 123 := im_D.of (by decide +kernel)
theorem D189_123 {g : im_g} : im_D g 189 123 (.invokevirtual 205) 126 := im_D.of (by decide +kernel)
theorem D189_126 {g : im_g} : im_D g 189 126 (.i2l) 127 := im_D.of (by decide +kernel)
theorem D189_127 {g : im_g} : im_D g 189 127 (.lreturn) 128 := im_D.of (by decide +kernel)
theorem D189_128 {g : im_g} : im_D g 189 128 (.aload_n 0) 129 := im_D.of (by decide +kernel)
theorem D189_129 {g : im_g} : im_D g 189 129 (.getfield 36) 132 := im_D.of (by decide +kernel)
theorem D189_132 {g : im_g} : im_D g 189 132 (.aload_n 0) 133 := im_D.of (by decide +kernel)
theorem D189_133 {g : im_g} : im_D g 189 133 (.getfield 49) 136 := im_D.of (by decide +kernel)
theorem D189_136 {g : im_g} : im_D g 189 136 (.iload_n 1) 137 := im_D.of (by decide +kernel)
theorem D189_137 {g : im_g} : im_D g 189 137 (.iaload) 138 := im_D.of (by decide +kernel)
theorem D189_138 {g : im_g} : im_D g 189 138 (.invokevirtual 208) 141 := im_D.of (by decide +kernel)
theorem D189_141 {g : im_g} : im_D g 189 141 (.i2l) 142 := im_D.of (by decide +kernel)
theorem D189_142 {g : im_g} : im_D g 189 142 (.lreturn) 143 := im_D.of (by decide +kernel)
theorem D189_143 {g : im_g} : im_D g 189 143 (.aload_n 0) 144 := im_D.of (by decide +kernel)
theorem D189_144 {g : im_g} : im_D g 189 144 (.getfield 36) 147 := im_D.of (by decide +kernel)
theorem D189_147 {g : im_g} : im_D g 189 147 (.aload_n 0) 148 := im_D.of (by decide +kernel)
theorem D189_148 {g : im_g} : im_D g 189 148 (.getfield 49) 151 := im_D.of (by decide +kernel)
theorem D189_151 {g : im_g} : im_D g 189 151 (.iload_n 1) 152 := im_D.of (by decide +kernel)
theorem D189_152 {g : im_g} : im_D g 189 152 (.iaload) 153 := im_D.of (by decide +kernel)
theorem D189_153 {g : im_g} : im_D g 189 153 (.invokevirtual 211) 156 := im_D.of (by decide +kernel)
theorem D189_156 {g : im_g} : im_D g 189 156 (.i2l) 157 := im_D.of (by decide +kernel)
theorem D189_157 {g : im_g} : im_D g 189 157 (.lreturn) 158 := im_D.of (by decide +kernel)
theorem D190_0 {g : im_g} : im_D g 190 0 (.ldc2_w 85) 3 := im_D.of (by decide +kernel)
theorem D190_3 {g : im_g} : im_D g 190 3 (.lstore_n 2) 4 := im_D.of (by decide +kernel)
theorem D190_4 {g : im_g} : im_D g 190 4 (.iload_n 1) 5 := im_D.of (by decide +kernel)
theorem D190_5 {g : im_g} : im_D g 190 5 (.istore 4) 7 := im_D.of (by decide +kernel)
theorem D190_7 {g : im_g} : im_D g 190 7 (.iload 4) 9 := im_D.of (by decide +kernel)
theorem D190_9 {g : im_g} : im_D g 190 9 (.aload_n 0) 10 := im_D.of (by decide +kernel)
theorem D190_10 {g : im_g} : im_D g 190 10 (.getfield 15) 13 := im_D.of (by decide +kernel)
theorem D190_13 {g : im_g} : im_D g 190 13 (.iload_n 1) 14 := im_D.of (by decide +kernel)
theorem D190_14 {g : im_g} : im_D g 190 14 (.iaload) 15 := im_D.of (by decide +kernel)
theorem D190_15 {g : im_g} : im_D g 190 15 (.if_icmp .ge 44) 18 := im_D.of (by decide +kernel)
theorem D190_18 {g : im_g} : im_D g 190 18 (.aload_n 0) 19 := im_D.of (by decide +kernel)
theorem D190_19 {g : im_g} : im_D g 190 19 (.getfield 9) 22 := im_D.of (by decide +kernel)
theorem D190_22 {g : im_g} : im_D g 190 22 (.iload 4) 24 := im_D.of (by decide +kernel)
theorem D190_24 {g : im_g} : im_D g 190 24 (.iaload) 25 := im_D.of (by decide +kernel)
theorem D190_25 {g : im_g} : im_D g 190 25 (.iconst 3) 26 := im_D.of (by decide +kernel)
theorem D190_26 {g : im_g} : im_D g 190 26 (.if_icmp .ne 27) 29 := im_D.of (by decide +kernel)
theorem D190_29 {g : im_g} : im_D g 190 29 (.aload_n 0) 30 := im_D.of (by decide +kernel)
theorem D190_30 {g : im_g} : im_D g 190 30 (.getfield 31) 33 := im_D.of (by decide +kernel)
theorem D190_33 {g : im_g} : im_D g 190 33 (.iload 4) 35 := im_D.of (by decide +kernel)
theorem D190_35 {g : im_g} : im_D g 190 35 (.laload) 36 := im_D.of (by decide +kernel)
theorem D190_36 {g : im_g} : im_D g 190 36 (.lconst 0) 37 := im_D.of (by decide +kernel)
theorem D190_37 {g : im_g} : im_D g 190 37 (.lcmp) 38 := im_D.of (by decide +kernel)
theorem D190_38 {g : im_g} : im_D g 190 38 (.ifCond .ne 15) 41 := im_D.of (by decide +kernel)
theorem D190_41 {g : im_g} : im_D g 190 41 (.lload_n 2) 42 := im_D.of (by decide +kernel)
theorem D190_42 {g : im_g} : im_D g 190 42 (.aload_n 0) 43 := im_D.of (by decide +kernel)
theorem D190_43 {g : im_g} : im_D g 190 43 (.getfield 27) 46 := im_D.of (by decide +kernel)
theorem D190_46 {g : im_g} : im_D g 190 46 (.iload 4) 48 := im_D.of (by decide +kernel)
theorem D190_48 {g : im_g} : im_D g 190 48 (.laload) 49 := im_D.of (by decide +kernel)
theorem D190_49 {g : im_g} : im_D g 190 49 (.invokestatic 87) 52 := im_D.of (by decide +kernel)
theorem D190_52 {g : im_g} : im_D g 190 52 (.lstore_n 2) 53 := im_D.of (by decide +kernel)
theorem D190_53 {g : im_g} : im_D g 190 53 (.iinc 4 1) 56 := im_D.of (by decide +kernel)
theorem D190_56 {g : im_g} : im_D g 190 56 (.goto (-49)) 59 := im_D.of (by decide +kernel)
theorem D190_59 {g : im_g} : im_D g 190 59 (.lload_n 2) 60 := im_D.of (by decide +kernel)
theorem D190_60 {g : im_g} : im_D g 190 60 (.lreturn) 61 := im_D.of (by decide +kernel)
theorem D191_0 {g : im_g} : im_D g 191 0 (.iconst 0) 1 := im_D.of (by decide +kernel)
theorem D191_1 {g : im_g} : im_D g 191 1 (.istore_n 2) 2 := im_D.of (by decide +kernel)
theorem D191_2 {g : im_g} : im_D g 191 2 (.iload_n 1) 3 := im_D.of (by decide +kernel)
theorem D191_3 {g : im_g} : im_D g 191 3 (.istore_n 3) 4 := im_D.of (by decide +kernel)
theorem D191_4 {g : im_g} : im_D g 191 4 (.iload_n 3) 5 := im_D.of (by decide +kernel)
theorem D191_5 {g : im_g} : im_D g 191 5 (.aload_n 0) 6 := im_D.of (by decide +kernel)
theorem D191_6 {g : im_g} : im_D g 191 6 (.getfield 15) 9 := im_D.of (by decide +kernel)
theorem D191_9 {g : im_g} : im_D g 191 9 (.iload_n 1) 10 := im_D.of (by decide +kernel)
theorem D191_10 {g : im_g} : im_D g 191 10 (.iaload) 11 := im_D.of (by decide +kernel)
theorem D191_11 {g : im_g} : im_D g 191 11 (.if_icmp .ge 82) 14 := im_D.of (by decide +kernel)
theorem D191_14 {g : im_g} : im_D g 191 14 (.aload_n 0) 15 := im_D.of (by decide +kernel)
theorem D191_15 {g : im_g} : im_D g 191 15 (.iload_n 3) 16 := im_D.of (by decide +kernel)
theorem D191_16 {g : im_g} : im_D g 191 16 (.invokevirtual 93) 19 := im_D.of (by decide +kernel)
theorem D191_19 {g : im_g} : im_D g 191 19 (.lstore 4) 21 := im_D.of (by decide +kernel)
theorem D191_21 {g : im_g} : im_D g 191 21 (.lload 4) 23 := im_D.of (by decide +kernel)
theorem D191_23 {g : im_g} : im_D g 191 23 (.lconst 0) 24 := im_D.of (by decide +kernel)
theorem D191_24 {g : im_g} : im_D g 191 24 (.lcmp) 25 := im_D.of (by decide +kernel)
theorem D191_25 {g : im_g} : im_D g 191 25 (.ifCond .eq 7) 28 := im_D.of (by decide +kernel)
theorem D191_28 {g : im_g} : im_D g 191 28 (.iconst 1) 29 := im_D.of (by decide +kernel)
theorem D191_29 {g : im_g} : im_D g 191 29 (.goto 4) 32 := im_D.of (by decide +kernel)
theorem D191_32 {g : im_g} : im_D g 191 32 (.iconst 0) 33 := im_D.of (by decide +kernel)
theorem D191_33 {g : im_g} : im_D g 191 33 (.istore 6) 35 := im_D.of (by decide +kernel)
theorem D191_35 {g : im_g} : im_D g 191 35 (.iload_n 1) 36 := im_D.of (by decide +kernel)
theorem D191_36 {g : im_g} : im_D g 191 36 (.istore 7) 38 := im_D.of (by decide +kernel)
theorem D191_38 {g : im_g} : im_D g 191 38 (.iload 7) 40 := im_D.of (by decide +kernel)
theorem D191_40 {g : im_g} : im_D g 191 40 (.iload_n 3) 41 := im_D.of (by decide +kernel)
theorem D191_41 {g : im_g} : im_D g 191 41 (.if_icmp .ge 33) 44 := im_D.of (by decide +kernel)
theorem D191_44 {g : im_g} : im_D g 191 44 (.iload 6) 46 := im_D.of (by decide +kernel)
theorem D191_46 {g : im_g} : im_D g 191 46 (.ifCond .eq 28) 49 := im_D.of (by decide +kernel)
theorem D191_49 {g : im_g} : im_D g 191 49 (.aload_n 0) 50 := im_D.of (by decide +kernel)
theorem D191_50 {g : im_g} : im_D g 191 50 (.iload 7) 52 := im_D.of (by decide +kernel)
theorem D191_52 {g : im_g} : im_D g 191 52 (.invokevirtual 93) 55 := im_D.of (by decide +kernel)
theorem D191_55 {g : im_g} : im_D g 191 55 (.lload 4) 57 := im_D.of (by decide +kernel)
theorem D191_57 {g : im_g} : im_D g 191 57 (.lcmp) 58 := im_D.of (by decide +kernel)
theorem D191_58 {g : im_g} : im_D g 191 58 (.ifCond .eq 7) 61 := im_D.of (by decide +kernel)
theorem D191_61 {g : im_g} : im_D g 191 61 (.iconst 1) 62 := im_D.of (by decide +kernel)
theorem D191_62 {g : im_g} : im_D g 191 62 (.goto 4) 65 := im_D.of (by decide +kernel)
theorem D191_65 {g : im_g} : im_D g 191 65 (.iconst 0) 66 := im_D.of (by decide +kernel)
theorem D191_66 {g : im_g} : im_D g 191 66 (.istore 6) 68 := im_D.of (by decide +kernel)
theorem D191_68 {g : im_g} : im_D g 191 68 (.iinc 7 1) 71 := im_D.of (by decide +kernel)
theorem D191_71 {g : im_g} : im_D g 191 71 (.goto (-33)) 74 := im_D.of (by decide +kernel)
theorem D191_74 {g : im_g} : im_D g 191 74 (.iload_n 2) 75 := im_D.of (by decide +kernel)
theorem D191_75 {g : im_g} : im_D g 191 75 (.iload 6) 77 := im_D.of (by decide +kernel)
theorem D191_77 {g : im_g} : im_D g 191 77 (.ifCond .eq 7) 80 := im_D.of (by decide +kernel)
theorem D191_80 {g : im_g} : im_D g 191 80 (.iconst 1) 81 := im_D.of (by decide +kernel)
theorem D191_81 {g : im_g} : im_D g 191 81 (.goto 4) 84 := im_D.of (by decide +kernel)
theorem D191_84 {g : im_g} : im_D g 191 84 (.iconst 0) 85 := im_D.of (by decide +kernel)
theorem D191_85 {g : im_g} : im_D g 191 85 (.iadd) 86 := im_D.of (by decide +kernel)
theorem D191_86 {g : im_g} : im_D g 191 86 (.istore_n 2) 87 := im_D.of (by decide +kernel)
theorem D191_87 {g : im_g} : im_D g 191 87 (.iinc 3 1) 90 := im_D.of (by decide +kernel)
theorem D191_90 {g : im_g} : im_D g 191 90 (.goto (-86)) 93 := im_D.of (by decide +kernel)
theorem D191_93 {g : im_g} : im_D g 191 93 (.iload_n 2) 94 := im_D.of (by decide +kernel)
theorem D191_94 {g : im_g} : im_D g 191 94 (.ireturn) 95 := im_D.of (by decide +kernel)
set_option maxRecDepth 20000 in
set_option maxHeartbeats 4000000 in
theorem k_P_print_0 {g : im_g} {d : Nat} {e : im_E} {M : im_M} {K : im_K} {p1 : Int} (hd : 1 ≤ d) (hP : im_T g (d - 1) 152 0 [some (.ref 0)] [] e M (im_rx (im_r0 (fun  e_ M1 => e = e_ ∧ im_T g (d - 1) 169 0 [some (vI p1), some (vI 16)] [] e M1 (im_rx (im_r0 (fun  e_ M2 => e = e_ ∧ (0 ≤ p1 ∧ p1 < 16) ∧ ((∀ x6 : Int, ((((M2 28 p1) = (-1)) ∧ x6 = 0) ∨ ((¬ (M2 28 p1) = (-1)) ∧ x6 = 1)) → im_T g (d - 1) 167 0 [some (vI x6)] [] e M2 (im_rx (im_r0 (fun  e_ M10 => e = e_ ∧ im_T g (d - 1) 22 0 [some (.ref 7)] [] e M10 (im_r0 (fun  e_ M11 => e = e_ ∧ im_T g (d - 1) 174 0 [some (.ref 7), some (.ref 13), some (vI (M11 28 p1)), none, none, none, none] [] e M11 (im_r0 (fun  e_ M13 => e = e_ ∧ K (.inl (some (vI (M13 7 1)))) e M13)))))) (fun E_ e_ M_ => K (.inr E_) e_ M_)))))) (fun E_ e_ M_ => K (.inr E_) e_ M_)))) (fun E_ e_ M_ => K (.inr E_) e_ M_))) : im_T g d 173 0 [some (.ref 0), some (vI p1)] [] e M K := by
  refine im_ld (q := 1) (i := 0) D173_0 rfl rfl rfl ?_
  refine im_callV (q := 4) (kd := 1) (y := 152) (n := 0) (ci := 11) (a := 0) (vs := [.ref 0]) (r := []) (L2 := [some (.ref 0)]) D173_1 (im_cal cn_173 cl_11_124) (Or.inl rfl) rfl sf_0 rfl rfl rfl rfl hd ⟨rfl, trivial⟩ ?_
  refine hP.mono ?_
  rintro _ e19 M1 (⟨rfl, rfl, hP⟩ | ⟨E_, rfl, hX⟩)
  · refine im_bkN ?_
    refine im_ld (q := 5) (i := 1) D173_4 rfl rfl rfl ?_
    refine im_bipush (q := 7) D173_5 rfl ?_
    refine im_callS (q := 10) (kd := 0) (y := 169) (n := 2) (z := 11) (vs := [vI p1, vI 16]) (r := []) (L2 := [some (vI p1), some (vI 16)]) D173_7 rfl (im_cal cn_173 cl_11_183) (Or.inl rfl) rfl rfl rfl rfl rfl hd ⟨rfl, rfl, trivial⟩ ?_
    refine hP.mono ?_
    rintro _ e18 M2 (⟨rfl, rfl, hP⟩ | ⟨E_, rfl, hX⟩)
    · refine im_bkN ?_
      refine im_ld (q := 11) (i := 0) D173_10 rfl rfl rfl ?_
      refine im_gfR (q := 14) (b := 28) D173_11 (im_fl cn_173 fl_11_49) sf_0 rfl rfl tR_11_6 rfl ?_
      refine im_ld (q := 15) (i := 1) D173_14 rfl rfl rfl ?_
      obtain ⟨hg3, hP⟩ := hP
      refine im_rng (j := p1) sf_28 hg3.1 hg3.2 (fun hr4 => ?_)
      refine im_iald (q := 16) D173_15 sf_28 hg3.1 hg3.2 (by decide) rfl ?_
      refine im_iconst (q := 17) D173_16 ?_
      have hJ7 := hP
      have kJ8 : ∀ x6 : Int, ((((M2 28 p1) = (-1)) ∧ x6 = 0) ∨ ((¬ (M2 28 p1) = (-1)) ∧ x6 = 1)) → im_T g d 173 25 [some (.ref 0), some (vI p1)] [vI x6] e M2 K := by
        intro x6 hx9
        have hP := hJ7 x6 hx9
        refine im_callS (q := 28) (kd := 0) (y := 167) (n := 1) (z := 11) (vs := [vI x6]) (r := []) (L2 := [some (vI x6)]) D173_25 rfl (im_cal cn_173 cl_11_187) (Or.inl rfl) rfl rfl rfl rfl rfl hd ⟨rfl, trivial⟩ ?_
        refine hP.mono ?_
        rintro _ e17 M10 (⟨rfl, rfl, hP⟩ | ⟨E_, rfl, hX⟩)
        · refine im_bkN ?_
          refine im_ld (q := 29) (i := 0) D173_28 rfl rfl rfl ?_
          refine im_gfR (q := 32) (b := 7) D173_29 (im_fl cn_173 fl_11_29) sf_0 rfl rfl tR_11_3 rfl ?_
          refine im_callV (q := 35) (kd := 1) (y := 22) (n := 0) (ci := 10) (a := 7) (vs := [.ref 7]) (r := []) (L2 := [some (.ref 7)]) D173_32 (im_cal cn_173 cl_11_155) (Or.inl rfl) rfl sf_7 rfl rfl rfl rfl hd ⟨rfl, trivial⟩ ?_
          refine hP.mono ?_
          rintro _ e16 M11 ⟨rfl, rfl, hP⟩
          refine im_bkN ?_
          refine im_ld (q := 36) (i := 0) D173_35 rfl rfl rfl ?_
          refine im_gfR (q := 39) (b := 7) D173_36 (im_fl cn_173 fl_11_29) sf_0 rfl rfl tR_11_3 rfl ?_
          refine im_ld (q := 40) (i := 0) D173_39 rfl rfl rfl ?_
          refine im_gfR (q := 43) (b := 13) D173_40 (im_fl cn_173 fl_11_36) sf_0 rfl rfl tR_11_4 rfl ?_
          refine im_ld (q := 44) (i := 0) D173_43 rfl rfl rfl ?_
          refine im_gfR (q := 47) (b := 28) D173_44 (im_fl cn_173 fl_11_49) sf_0 rfl rfl tR_11_6 rfl ?_
          refine im_ld (q := 48) (i := 1) D173_47 rfl rfl rfl ?_
          refine im_rng (j := p1) sf_28 hg3.1 hg3.2 (fun hr12 => ?_)
          refine im_iald (q := 49) D173_48 sf_28 hg3.1 hg3.2 (by decide) rfl ?_
          refine im_callV (q := 52) (kd := 1) (y := 174) (n := 2) (ci := 10) (a := 7) (vs := [.ref 7, .ref 13, vI (M11 28 p1)]) (r := []) (L2 := [some (.ref 7), some (.ref 13), some (vI (M11 28 p1)), none, none, none, none]) D173_49 (im_cal cn_173 cl_11_191) (Or.inl rfl) rfl sf_7 rfl rfl rfl rfl hd ⟨rfl, rfl, rfl, trivial⟩ ?_
          refine hP.mono ?_
          rintro _ e15 M13 ⟨rfl, rfl, hP⟩
          refine im_bkN ?_
          refine im_ld (q := 53) (i := 0) D173_52 rfl rfl rfl ?_
          refine im_gfR (q := 56) (b := 7) D173_53 (im_fl cn_173 fl_11_29) sf_0 rfl rfl tR_11_3 rfl ?_
          refine im_rng (j := 1) sf_7 (by decide) (by decide) (fun hr14 => ?_)
          refine im_gfI (q := 59) D173_56 (im_fl cn_173 fl_11_149) sf_7 rfl rfl tI_10_1 rfl ?_
          exact im_iret (q := 60) D173_59 rfl hP
        · exact im_bkE rfl hX
      refine im_icmp (q := 20) (t := 24) D173_17 rfl hr4 (by decide) (fun hc5 => ?_) (fun hc5 => ?_)
      · refine im_iconst (q := 25) D173_24 ?_
        exact (kJ8 (0) (Or.inl ⟨hc5, rfl⟩)).wk ⟨rfl, rfl, trivial⟩
      · refine im_iconst (q := 21) D173_20 ?_
        refine im_goto (q := 24) (t := 25) D173_21 rfl ?_
        exact (kJ8 (1) (Or.inr ⟨hc5, rfl⟩)).wk ⟨rfl, rfl, trivial⟩
    · exact im_bkE rfl hX
  · exact im_bkE rfl hX
set_option maxRecDepth 20000 in
set_option maxHeartbeats 4000000 in
theorem k_Writer_contract_0 {g : im_g} {d : Nat} {e : im_E} {M : im_M} {K : im_K} {p2 : Int} (hd : 1 ≤ d) (hP : im_T g (d - 1) 175 0 [some (.ref 7), some (vI 99), some (vI p2)] [] e (im_u M 7 5 0) (im_r0 (fun  e_ M1 => e = e_ ∧ im_T g d 174 17 [some (.ref 7), some (.ref 13), none, some (vI p2), some (vI 0), none, none] [] e M1 K))) : im_T g d 174 0 [some (.ref 7), some (.ref 13), some (vI p2), none, none, none, none] [] e M K := by
  refine im_ld (q := 1) (i := 2) D174_0 rfl rfl rfl ?_
  refine im_st1 (q := 2) (i := 3) (L' := [some (.ref 7), some (.ref 13), some (vI p2), some (vI p2), none, none, none]) D174_1 (Or.inl ⟨_, rfl, rfl⟩) (Nat.le_of_ble_eq_true rfl) rfl ?_
  refine im_ld (q := 3) (i := 0) D174_2 rfl rfl rfl ?_
  refine im_iconst (q := 4) D174_3 ?_
  refine im_pfI (q := 7) D174_4 (im_fl cn_174 fl_10_68) sf_7 rfl rfl ti_10_5 (by decide) ?_
  refine im_ld (q := 8) (i := 0) D174_7 rfl rfl rfl ?_
  refine im_bipush (q := 10) D174_8 rfl ?_
  refine im_ld (q := 11) (i := 2) D174_10 rfl rfl rfl ?_
  refine im_callV (q := 14) (kd := 1) (y := 175) (n := 2) (ci := 10) (a := 7) (vs := [.ref 7, vI 99, vI p2]) (r := []) (L2 := [some (.ref 7), some (vI 99), some (vI p2)]) D174_11 (im_cal cn_174 cl_10_71) (Or.inl rfl) rfl sf_7 rfl rfl rfl rfl hd ⟨rfl, rfl, rfl, trivial⟩ ?_
  refine hP.mono ?_
  rintro _ e2 M1 ⟨rfl, rfl, hP⟩
  refine im_bkN ?_
  refine im_iconst (q := 15) D174_14 ?_
  refine im_st1 (q := 17) (i := 4) (L' := [some (.ref 7), some (.ref 13), some (vI p2), some (vI p2), some (vI 0), none, none]) D174_15 (Or.inr rfl) (Nat.le_of_ble_eq_true rfl) rfl ?_
  exact hP.wk ⟨rfl, rfl, rfl, rfl, trivial⟩
set_option maxRecDepth 20000 in
set_option maxHeartbeats 4000000 in
theorem k_Writer_contract_17 {g : im_g} {d : Nat} {e : im_E} {M : im_M} {K : im_K} {p3 p4 : Int} (hd : 1 ≤ d) (hP : (im_i32 p4) ∧ ((((p4 < 16384 → ((0 < (M 7 5) → (im_i32 p3) ∧ ((p3 < 5000 → (im_i32 ((M 7 5) - 1)) ∧ (0 ≤ ((M 7 5) - 1) ∧ ((M 7 5) - 1) < 1024) ∧ ((((¬ (M 9 ((M 7 5) - 1)) = 99 → ((¬ (M 9 ((M 7 5) - 1)) = 118 → ((¬ (M 9 ((M 7 5) - 1)) = 111 → ((¬ (M 9 ((M 7 5) - 1)) = 107 → im_T g (d - 1) 184 0 [some (.ref 7), some (.ref 13), some (vI (M 9 ((M 7 5) - 1))), some (vI (M 10 ((M 7 5) - 1)))] [] e (im_u M 7 5 ((M 7 5) - 1)) (im_r0 (fun  e_ M26 => e = e_ ∧ im_T g d 174 17 [some (.ref 7), some (.ref 13), none, some (vI p3), some (vI (p4 + 1)), none, none] [] e M26 K))) ∧ ((M 9 ((M 7 5) - 1)) = 107 → im_T g (d - 1) 116 0 [some (.ref 13), some (vI p3)] [] e (im_u M 7 5 ((M 7 5) - 1)) (im_ri (fun x29 e_ M28 => e = e_ ∧ (im_i32 x29) ∧ ((x29 = 0 → im_T g (d - 1) 184 0 [some (.ref 7), some (.ref 13), some (vI (M 9 ((M 7 5) - 1))), some (vI (M 10 ((M 7 5) - 1)))] [] e M28 (im_r0 (fun  e_ M32 => e = e_ ∧ im_T g d 174 17 [some (.ref 7), some (.ref 13), none, some (vI p3), some (vI (p4 + 1)), none, none] [] e M32 K))) ∧ (¬ x29 = 0 → im_T g (d - 1) 175 0 [some (.ref 7), some (vI 107), some (vI (M 10 ((M 7 5) - 1)))] [] e M28 (im_r0 (fun  e_ M34 => e = e_ ∧ im_T g (d - 1) 182 0 [some (.ref 7), some (vI 31)] [] e M34 (im_r0 (fun  e_ M35 => e = e_ ∧ im_T g (d - 1) 176 0 [some (.ref 7), some (.ref 13), some (vI p3), none, none, none] [] e M35 (im_r0 (fun  e_ M36 => e = e_ ∧ im_T g d 174 17 [some (.ref 7), some (.ref 13), none, some (vI (p3 + 1)), some (vI (p4 + 1)), none, none] [] e M36 K))))))))))))))))))) ∧ (((((M 9 ((M 7 5) - 1)) = 99)) ∨ ((¬ (M 9 ((M 7 5) - 1)) = 99) ∧ ((M 9 ((M 7 5) - 1)) = 118)) ∨ ((¬ (M 9 ((M 7 5) - 1)) = 99) ∧ (¬ (M 9 ((M 7 5) - 1)) = 118) ∧ ((M 9 ((M 7 5) - 1)) = 111))) → im_T g (d - 1) 176 0 [some (.ref 7), some (.ref 13), some (vI p3), none, none, none] [] e (im_u M 7 5 ((M 7 5) - 1)) (im_r0 (fun  e_ M24 => e = e_ ∧ im_T g d 174 17 [some (.ref 7), some (.ref 13), none, some (vI (p3 + 1)), some (vI (p4 + 1)), none, none] [] e M24 K))))))))))) ∧ ((((16384 ≤ p4)) ∨ ((p4 < 16384) ∧ ((M 7 5) ≤ 0)) ∨ ((p4 < 16384) ∧ (0 < (M 7 5)) ∧ (5000 ≤ p3))) → K (.inl none) e M))) : im_T g d 174 17 [some (.ref 7), some (.ref 13), none, some (vI p3), some (vI p4), none, none] [] e M K := by
  refine im_ld (q := 19) (i := 4) D174_17 rfl rfl rfl ?_
  refine im_sipush (q := 22) D174_19 rfl ?_
  obtain ⟨hg1, hP⟩ := hP
  obtain ⟨hP, hJ8⟩ := hP
  have kJ9 : (((16384 ≤ p4)) ∨ ((p4 < 16384) ∧ ((M 7 5) ≤ 0)) ∨ ((p4 < 16384) ∧ (0 < (M 7 5)) ∧ (5000 ≤ p3))) → im_T g d 174 162 [none, none, none, none, none, none, none] [] e M K := by
    intro  hx10
    have hP := hJ8  hx10
    exact im_vret (q := 163) D174_162 rfl hP
  refine im_icmp (q := 25) (t := 162) D174_22 rfl hg1 (by decide) (fun hc2 => ?_) (fun hc2 => ?_)
  · exact (kJ9  (Or.inl hc2)).wk trivial
  · replace hP := hP (Int.not_le.mp hc2)
    refine im_ld (q := 26) (i := 0) D174_25 rfl rfl rfl ?_
    refine im_rng (j := 5) sf_7 (by decide) (by decide) (fun hr3 => ?_)
    refine im_gfI (q := 29) D174_26 (im_fl cn_174 fl_10_68) sf_7 rfl rfl tI_10_5 rfl ?_
    refine im_ifc (q := 32) (t := 162) D174_29 rfl hr3 (fun hc4 => ?_) (fun hc4 => ?_)
    · exact (kJ9  (Or.inr (Or.inl ⟨(Int.not_le.mp hc2), hc4⟩))).wk trivial
    · replace hP := hP (Int.not_le.mp hc4)
      refine im_ld (q := 33) (i := 3) D174_32 rfl rfl rfl ?_
      refine im_ld (q := 34) (i := 1) D174_33 rfl rfl rfl ?_
      refine im_gfR (q := 37) (b := 14) D174_34 (im_fl cn_174 fl_10_75) sf_13 rfl rfl tR_5_0 rfl ?_
      refine im_alen (q := 38) D174_37 sf_14 (by decide) ?_
      obtain ⟨hg5, hP⟩ := hP
      refine im_icmp (q := 41) (t := 162) D174_38 rfl hg5 (by decide) (fun hc6 => ?_) (fun hc6 => ?_)
      · exact (kJ9  (Or.inr (Or.inr ⟨(Int.not_le.mp hc2), (Int.not_le.mp hc4), hc6⟩))).wk trivial
      · replace hP := hP (Int.not_le.mp hc6)
        refine im_ld (q := 42) (i := 0) D174_41 rfl rfl rfl ?_
        refine im_dup (q := 43) D174_42 rfl ?_
        refine im_gfI (q := 46) D174_43 (im_fl cn_174 fl_10_68) sf_7 rfl rfl tI_10_5 rfl ?_
        refine im_iconst (q := 47) D174_46 ?_
        refine im_isub (q := 48) D174_47 ?_
        obtain ⟨hg11, hP⟩ := hP
        refine im_pfI (q := 51) D174_48 (im_fl cn_174 fl_10_68) sf_7 rfl rfl ti_10_5 hg11 ?_
        refine im_ld (q := 52) (i := 0) D174_51 rfl rfl rfl ?_
        refine im_gfR (q := 55) (b := 9) D174_52 (im_fl cn_174 fl_10_15) sf_7 rfl rfl tR_10_3 rfl ?_
        refine im_ld (q := 56) (i := 0) D174_55 rfl rfl rfl ?_
        refine im_gfI (q := 59) D174_56 (im_fl cn_174 fl_10_68) sf_7 rfl rfl tI_10_5 (im_rds _ _ _ _) ?_
        obtain ⟨hg13, hP⟩ := hP
        refine im_rng (j := ((M 7 5) - 1)) sf_9 hg13.1 hg13.2 (fun hr14 => ?_)
        refine im_iald (q := 60) D174_59 sf_9 hg13.1 hg13.2 (by decide) (im_rdn _ _ _ _ (by decide)) ?_
        refine im_st1 (q := 62) (i := 5) (L' := [some (.ref 7), some (.ref 13), none, some (vI p3), some (vI p4), some (vI (M 9 ((M 7 5) - 1))), none]) D174_60 (Or.inr rfl) (Nat.le_of_ble_eq_true rfl) rfl ?_
        refine im_ld (q := 63) (i := 0) D174_62 rfl rfl rfl ?_
        refine im_gfR (q := 66) (b := 10) D174_63 (im_fl cn_174 fl_10_19) sf_7 rfl rfl tR_10_4 rfl ?_
        refine im_ld (q := 67) (i := 0) D174_66 rfl rfl rfl ?_
        refine im_gfI (q := 70) D174_67 (im_fl cn_174 fl_10_68) sf_7 rfl rfl tI_10_5 (im_rds _ _ _ _) ?_
        refine im_rng (j := ((M 7 5) - 1)) sf_10 hg13.1 hg13.2 (fun hr16 => ?_)
        refine im_iald (q := 71) D174_70 sf_10 hg13.1 hg13.2 (by decide) (im_rdn _ _ _ _ (by decide)) ?_
        refine im_st1 (q := 73) (i := 6) (L' := [some (.ref 7), some (.ref 13), none, some (vI p3), some (vI p4), some (vI (M 9 ((M 7 5) - 1))), some (vI (M 10 ((M 7 5) - 1)))]) D174_71 (Or.inr rfl) (Nat.le_of_ble_eq_true rfl) rfl ?_
        refine im_ld (q := 75) (i := 5) D174_73 rfl rfl rfl ?_
        refine im_bipush (q := 77) D174_75 rfl ?_
        obtain ⟨hP, hJ21⟩ := hP
        have kJ22 : ((((M 9 ((M 7 5) - 1)) = 99)) ∨ ((¬ (M 9 ((M 7 5) - 1)) = 99) ∧ ((M 9 ((M 7 5) - 1)) = 118)) ∨ ((¬ (M 9 ((M 7 5) - 1)) = 99) ∧ (¬ (M 9 ((M 7 5) - 1)) = 118) ∧ ((M 9 ((M 7 5) - 1)) = 111))) → im_T g d 174 94 [some (.ref 7), some (.ref 13), none, some (vI p3), some (vI p4), none, none] [] e (im_u M 7 5 ((M 7 5) - 1)) K := by
          intro  hx23
          have hP := hJ21  hx23
          refine im_ld (q := 95) (i := 0) D174_94 rfl rfl rfl ?_
          refine im_ld (q := 96) (i := 1) D174_95 rfl rfl rfl ?_
          refine im_ld (q := 97) (i := 3) D174_96 rfl rfl rfl ?_
          refine im_callV (q := 100) (kd := 1) (y := 176) (n := 2) (ci := 10) (a := 7) (vs := [.ref 7, .ref 13, vI p3]) (r := []) (L2 := [some (.ref 7), some (.ref 13), some (vI p3), none, none, none]) D174_97 (im_cal cn_174 cl_10_80) (Or.inl rfl) rfl sf_7 rfl rfl rfl rfl hd ⟨rfl, rfl, rfl, trivial⟩ ?_
          refine hP.mono ?_
          rintro _ e25 M24 ⟨rfl, rfl, hP⟩
          refine im_bkN ?_
          refine im_iinc (q := 103) (i := 3) (L' := [some (.ref 7), some (.ref 13), none, some (vI (p3 + 1)), some (vI p4), none, none]) D174_100 rfl (Nat.le_of_ble_eq_true rfl) rfl ?_
          refine im_goto (q := 106) (t := 156) D174_103 rfl ?_
          refine im_iinc (q := 159) (i := 4) (L' := [some (.ref 7), some (.ref 13), none, some (vI (p3 + 1)), some (vI (p4 + 1)), none, none]) D174_156 rfl (Nat.le_of_ble_eq_true rfl) rfl ?_
          refine im_goto (q := 162) (t := 17) D174_159 rfl ?_
          exact hP.wk ⟨rfl, rfl, rfl, rfl, trivial⟩
        refine im_icmp (q := 80) (t := 94) D174_77 rfl (im_rgc hr14 (im_rdn _ _ _ _ (by decide))) (by decide) (fun hc17 => ?_) (fun hc17 => ?_)
        · exact (kJ22  (Or.inl hc17)).wk ⟨rfl, rfl, rfl, rfl, trivial⟩
        · replace hP := hP hc17
          refine im_ld (q := 82) (i := 5) D174_80 rfl rfl rfl ?_
          refine im_bipush (q := 84) D174_82 rfl ?_
          refine im_icmp (q := 87) (t := 94) D174_84 rfl (im_rgc hr14 (im_rdn _ _ _ _ (by decide))) (by decide) (fun hc18 => ?_) (fun hc18 => ?_)
          · exact (kJ22  (Or.inr (Or.inl ⟨hc17, hc18⟩))).wk ⟨rfl, rfl, rfl, rfl, trivial⟩
          · replace hP := hP hc18
            refine im_ld (q := 89) (i := 5) D174_87 rfl rfl rfl ?_
            refine im_bipush (q := 91) D174_89 rfl ?_
            refine im_icmp (q := 94) (t := 106) D174_91 rfl (im_rgc hr14 (im_rdn _ _ _ _ (by decide))) (by decide) (fun hc19 => ?_) (fun hc19 => ?_)
            · replace hP := hP hc19
              refine im_ld (q := 108) (i := 5) D174_106 rfl rfl rfl ?_
              refine im_bipush (q := 110) D174_108 rfl ?_
              refine im_icmp (q := 113) (t := 147) D174_110 rfl (im_rgc hr14 (im_rdn _ _ _ _ (by decide))) (by decide) (fun hc20 => ?_) (fun hc20 => ?_)
              · replace hP := hP.1 hc20
                refine im_ld (q := 148) (i := 0) D174_147 rfl rfl rfl ?_
                refine im_ld (q := 149) (i := 1) D174_148 rfl rfl rfl ?_
                refine im_ld (q := 151) (i := 5) D174_149 rfl rfl rfl ?_
                refine im_ld (q := 153) (i := 6) D174_151 rfl rfl rfl ?_
                refine im_callV (q := 156) (kd := 1) (y := 184) (n := 3) (ci := 10) (a := 7) (vs := [.ref 7, .ref 13, vI (M 9 ((M 7 5) - 1)), vI (M 10 ((M 7 5) - 1))]) (r := []) (L2 := [some (.ref 7), some (.ref 13), some (vI (M 9 ((M 7 5) - 1))), some (vI (M 10 ((M 7 5) - 1)))]) D174_153 (im_cal cn_174 cl_10_91) (Or.inl rfl) rfl sf_7 rfl rfl rfl rfl hd ⟨rfl, rfl, rfl, rfl, trivial⟩ ?_
                refine hP.mono ?_
                rintro _ e27 M26 ⟨rfl, rfl, hP⟩
                refine im_bkN ?_
                refine im_iinc (q := 159) (i := 4) (L' := [some (.ref 7), some (.ref 13), none, some (vI p3), some (vI (p4 + 1)), some (vI (M 9 ((M 7 5) - 1))), some (vI (M 10 ((M 7 5) - 1)))]) D174_156 rfl (Nat.le_of_ble_eq_true rfl) rfl ?_
                refine im_goto (q := 162) (t := 17) D174_159 rfl ?_
                exact hP.wk ⟨rfl, rfl, rfl, rfl, trivial⟩
              · replace hP := hP.2 (Decidable.not_not.mp hc20)
                refine im_ld (q := 114) (i := 1) D174_113 rfl rfl rfl ?_
                refine im_ld (q := 115) (i := 3) D174_114 rfl rfl rfl ?_
                refine im_callV (q := 118) (kd := 1) (y := 116) (n := 1) (ci := 5) (a := 13) (vs := [.ref 13, vI p3]) (r := []) (L2 := [some (.ref 13), some (vI p3)]) D174_115 (im_cal cn_174 cl_10_84) (Or.inl rfl) rfl sf_13 rfl rfl rfl rfl hd ⟨rfl, rfl, trivial⟩ ?_
                refine hP.mono ?_
                rintro _ e40 M28 ⟨x29, rfl, rfl, hP⟩
                refine im_bkS ?_
                obtain ⟨hg30, hP⟩ := hP
                refine im_ifc (q := 121) (t := 147) D174_118 rfl hg30 (fun hc31 => ?_) (fun hc31 => ?_)
                · replace hP := hP.1 hc31
                  refine im_ld (q := 148) (i := 0) D174_147 rfl rfl rfl ?_
                  refine im_ld (q := 149) (i := 1) D174_148 rfl rfl rfl ?_
                  refine im_ld (q := 151) (i := 5) D174_149 rfl rfl rfl ?_
                  refine im_ld (q := 153) (i := 6) D174_151 rfl rfl rfl ?_
                  refine im_callV (q := 156) (kd := 1) (y := 184) (n := 3) (ci := 10) (a := 7) (vs := [.ref 7, .ref 13, vI (M 9 ((M 7 5) - 1)), vI (M 10 ((M 7 5) - 1))]) (r := []) (L2 := [some (.ref 7), some (.ref 13), some (vI (M 9 ((M 7 5) - 1))), some (vI (M 10 ((M 7 5) - 1)))]) D174_153 (im_cal cn_174 cl_10_91) (Or.inl rfl) rfl sf_7 rfl rfl rfl rfl hd ⟨rfl, rfl, rfl, rfl, trivial⟩ ?_
                  refine hP.mono ?_
                  rintro _ e33 M32 ⟨rfl, rfl, hP⟩
                  refine im_bkN ?_
                  refine im_iinc (q := 159) (i := 4) (L' := [some (.ref 7), some (.ref 13), none, some (vI p3), some (vI (p4 + 1)), some (vI (M 9 ((M 7 5) - 1))), some (vI (M 10 ((M 7 5) - 1)))]) D174_156 rfl (Nat.le_of_ble_eq_true rfl) rfl ?_
                  refine im_goto (q := 162) (t := 17) D174_159 rfl ?_
                  exact hP.wk ⟨rfl, rfl, rfl, rfl, trivial⟩
                · replace hP := hP.2 hc31
                  refine im_ld (q := 122) (i := 0) D174_121 rfl rfl rfl ?_
                  refine im_bipush (q := 124) D174_122 rfl ?_
                  refine im_ld (q := 126) (i := 6) D174_124 rfl rfl rfl ?_
                  refine im_callV (q := 129) (kd := 1) (y := 175) (n := 2) (ci := 10) (a := 7) (vs := [.ref 7, vI 107, vI (M 10 ((M 7 5) - 1))]) (r := []) (L2 := [some (.ref 7), some (vI 107), some (vI (M 10 ((M 7 5) - 1)))]) D174_126 (im_cal cn_174 cl_10_71) (Or.inl rfl) rfl sf_7 rfl rfl rfl rfl hd ⟨rfl, rfl, rfl, trivial⟩ ?_
                  refine hP.mono ?_
                  rintro _ e39 M34 ⟨rfl, rfl, hP⟩
                  refine im_bkN ?_
                  refine im_ld (q := 130) (i := 0) D174_129 rfl rfl rfl ?_
                  refine im_bipush (q := 132) D174_130 rfl ?_
                  refine im_callV (q := 135) (kd := 1) (y := 182) (n := 1) (ci := 10) (a := 7) (vs := [.ref 7, vI 31]) (r := []) (L2 := [some (.ref 7), some (vI 31)]) D174_132 (im_cal cn_174 cl_10_88) (Or.inl rfl) rfl sf_7 rfl rfl rfl rfl hd ⟨rfl, rfl, trivial⟩ ?_
                  refine hP.mono ?_
                  rintro _ e38 M35 ⟨rfl, rfl, hP⟩
                  refine im_bkN ?_
                  refine im_ld (q := 136) (i := 0) D174_135 rfl rfl rfl ?_
                  refine im_ld (q := 137) (i := 1) D174_136 rfl rfl rfl ?_
                  refine im_ld (q := 138) (i := 3) D174_137 rfl rfl rfl ?_
                  refine im_callV (q := 141) (kd := 1) (y := 176) (n := 2) (ci := 10) (a := 7) (vs := [.ref 7, .ref 13, vI p3]) (r := []) (L2 := [some (.ref 7), some (.ref 13), some (vI p3), none, none, none]) D174_138 (im_cal cn_174 cl_10_80) (Or.inl rfl) rfl sf_7 rfl rfl rfl rfl hd ⟨rfl, rfl, rfl, trivial⟩ ?_
                  refine hP.mono ?_
                  rintro _ e37 M36 ⟨rfl, rfl, hP⟩
                  refine im_bkN ?_
                  refine im_iinc (q := 144) (i := 3) (L' := [some (.ref 7), some (.ref 13), none, some (vI (p3 + 1)), some (vI p4), some (vI (M 9 ((M 7 5) - 1))), some (vI (M 10 ((M 7 5) - 1)))]) D174_141 rfl (Nat.le_of_ble_eq_true rfl) rfl ?_
                  refine im_goto (q := 147) (t := 156) D174_144 rfl ?_
                  refine im_iinc (q := 159) (i := 4) (L' := [some (.ref 7), some (.ref 13), none, some (vI (p3 + 1)), some (vI (p4 + 1)), some (vI (M 9 ((M 7 5) - 1))), some (vI (M 10 ((M 7 5) - 1)))]) D174_156 rfl (Nat.le_of_ble_eq_true rfl) rfl ?_
                  refine im_goto (q := 162) (t := 17) D174_159 rfl ?_
                  exact hP.wk ⟨rfl, rfl, rfl, rfl, trivial⟩
            · exact (kJ22  (Or.inr (Or.inr ⟨hc17, hc18, (Decidable.not_not.mp hc19)⟩))).wk ⟨rfl, rfl, rfl, rfl, trivial⟩
set_option maxRecDepth 20000 in
set_option maxHeartbeats 4000000 in
theorem k_Writer_push_0 {g : im_g} {d : Nat} {e : im_E} {M : im_M} {K : im_K} {p1 p2 : Int} (hP : ((1024 ≤ (M 7 5) → K (.inl none) e M) ∧ ((M 7 5) < 1024 → (0 ≤ (M 7 5) ∧ (M 7 5) < 1024) ∧ (im_i32 p1) ∧ (im_i32 p2) ∧ (im_i32 ((M 7 5) + 1)) ∧ K (.inl none) e (im_u (im_u (im_u M 9 (M 7 5) p1) 10 (M 7 5) p2) 7 5 ((M 7 5) + 1))))) : im_T g d 175 0 [some (.ref 7), some (vI p1), some (vI p2)] [] e M K := by
  refine im_ld (q := 1) (i := 0) D175_0 rfl rfl rfl ?_
  refine im_rng (j := 5) sf_7 (by decide) (by decide) (fun hr1 => ?_)
  refine im_gfI (q := 4) D175_1 (im_fl cn_175 fl_10_68) sf_7 rfl rfl tI_10_5 rfl ?_
  refine im_sipush (q := 7) D175_4 rfl ?_
  refine im_icmp (q := 10) (t := 40) D175_7 rfl hr1 (by decide) (fun hc2 => ?_) (fun hc2 => ?_)
  · replace hP := hP.1 hc2
    exact im_vret (q := 41) D175_40 rfl hP
  · replace hP := hP.2 (Int.not_le.mp hc2)
    refine im_ld (q := 11) (i := 0) D175_10 rfl rfl rfl ?_
    refine im_gfR (q := 14) (b := 9) D175_11 (im_fl cn_175 fl_10_15) sf_7 rfl rfl tR_10_3 rfl ?_
    refine im_ld (q := 15) (i := 0) D175_14 rfl rfl rfl ?_
    refine im_gfI (q := 18) D175_15 (im_fl cn_175 fl_10_68) sf_7 rfl rfl tI_10_5 rfl ?_
    refine im_ld (q := 19) (i := 1) D175_18 rfl rfl rfl ?_
    obtain ⟨hg4, hP⟩ := hP
    obtain ⟨hg5, hP⟩ := hP
    refine im_iast (q := 20) D175_19 sf_9 hg4.1 hg4.2 (by decide) hg5 ?_
    refine im_ld (q := 21) (i := 0) D175_20 rfl rfl rfl ?_
    refine im_gfR (q := 24) (b := 10) D175_21 (im_fl cn_175 fl_10_19) sf_7 rfl rfl tR_10_4 rfl ?_
    refine im_ld (q := 25) (i := 0) D175_24 rfl rfl rfl ?_
    refine im_gfI (q := 28) D175_25 (im_fl cn_175 fl_10_68) sf_7 rfl rfl tI_10_5 (im_rdn _ _ _ _ (by decide)) ?_
    refine im_ld (q := 29) (i := 2) D175_28 rfl rfl rfl ?_
    obtain ⟨hg7, hP⟩ := hP
    refine im_iast (q := 30) D175_29 sf_10 hg4.1 hg4.2 (by decide) hg7 ?_
    refine im_ld (q := 31) (i := 0) D175_30 rfl rfl rfl ?_
    refine im_dup (q := 32) D175_31 rfl ?_
    refine im_gfI (q := 35) D175_32 (im_fl cn_175 fl_10_68) sf_7 rfl rfl tI_10_5 ((im_rdn _ _ _ _ (by decide)).trans (im_rdn _ _ _ _ (by decide))) ?_
    refine im_iconst (q := 36) D175_35 ?_
    refine im_iadd (q := 37) D175_36 ?_
    obtain ⟨hg9, hP⟩ := hP
    refine im_pfI (q := 40) D175_37 (im_fl cn_175 fl_10_68) sf_7 rfl rfl ti_10_5 hg9 ?_
    exact im_vret (q := 41) D175_40 rfl hP
set_option maxRecDepth 20000 in
set_option maxHeartbeats 4000000 in
theorem k_Writer_node_0 {g : im_g} {d : Nat} {e : im_E} {M : im_M} {K : im_K} {p2 : Int} (hd : 1 ≤ d) (hP : (0 ≤ p2 ∧ p2 < 5000) ∧ ((¬ (M 14 p2) = 34 → ((¬ (M 14 p2) = 35 → im_T g (d - 1) 182 0 [some (.ref 7), some (vI (M 14 p2))] [] e M (im_r0 (fun  e_ M7 => e = e_ ∧ im_T g (d - 1) 60 0 [some (vI (M 14 p2))] [] e M7 (im_rf (fun u9 e_ M8 => e = e_ ∧ (Nat.blt u9.toNat 30 = true) ∧ im_T g (d - 1) 3 0 [some (.float u9)] [] e M8 (im_ri (fun x11 e_ M10 => e = e_ ∧ im_T g d 176 78 [some (.ref 7), none, some (vI p2), none, some (.float u9), some (vI (x11 - 1))] [] e M10 K))))))) ∧ ((M 14 p2) = 35 → im_T g (d - 1) 179 0 [some (.ref 7), some (vL (M 19 p2)), none] [] e M (im_r0 (fun  e_ M15 => e = e_ ∧ im_T g (d - 1) 60 0 [some (vI (M 14 p2))] [] e M15 (im_rf (fun u17 e_ M16 => e = e_ ∧ (Nat.blt u17.toNat 30 = true) ∧ im_T g (d - 1) 3 0 [some (.float u17)] [] e M16 (im_ri (fun x19 e_ M18 => e = e_ ∧ im_T g d 176 78 [some (.ref 7), none, some (vI p2), none, some (.float u17), some (vI (x19 - 1))] [] e M18 K))))))))) ∧ ((M 14 p2) = 34 → im_T g (d - 1) 125 0 [some (.ref 13), some (vI (M 18 p2)), some (.ref 11), none] [] e M (im_ri (fun x24 e_ M23 => e = e_ ∧ im_T g (d - 1) 177 0 [some (.ref 7), some (.ref 11), none, none, none, none] [] e M23 (im_r0 (fun  e_ M25 => e = e_ ∧ im_T g (d - 1) 60 0 [some (vI (M 14 p2))] [] e M25 (im_rf (fun u27 e_ M26 => e = e_ ∧ (Nat.blt u27.toNat 30 = true) ∧ im_T g (d - 1) 3 0 [some (.float u27)] [] e M26 (im_ri (fun x29 e_ M28 => e = e_ ∧ im_T g d 176 78 [some (.ref 7), none, some (vI p2), none, some (.float u27), some (vI (x29 - 1))] [] e M28 K))))))))))) : im_T g d 176 0 [some (.ref 7), some (.ref 13), some (vI p2), none, none, none] [] e M K := by
  refine im_ld (q := 1) (i := 1) D176_0 rfl rfl rfl ?_
  refine im_gfR (q := 4) (b := 14) D176_1 (im_fl cn_176 fl_10_75) sf_13 rfl rfl tR_5_0 rfl ?_
  refine im_ld (q := 5) (i := 2) D176_4 rfl rfl rfl ?_
  obtain ⟨hg1, hP⟩ := hP
  refine im_rng (j := p2) sf_14 hg1.1 hg1.2 (fun hr2 => ?_)
  refine im_iald (q := 6) D176_5 sf_14 hg1.1 hg1.2 (by decide) rfl ?_
  refine im_st1 (q := 7) (i := 3) (L' := [some (.ref 7), some (.ref 13), some (vI p2), some (vI (M 14 p2)), none, none]) D176_6 (Or.inl ⟨_, rfl, rfl⟩) (Nat.le_of_ble_eq_true rfl) rfl ?_
  refine im_ld (q := 8) (i := 3) D176_7 rfl rfl rfl ?_
  refine im_bipush (q := 10) D176_8 rfl ?_
  refine im_icmp (q := 13) (t := 39) D176_10 rfl hr2 (by decide) (fun hc3 => ?_) (fun hc3 => ?_)
  · replace hP := hP.1 hc3
    refine im_ld (q := 40) (i := 3) D176_39 rfl rfl rfl ?_
    refine im_bipush (q := 42) D176_40 rfl ?_
    refine im_icmp (q := 45) (t := 58) D176_42 rfl hr2 (by decide) (fun hc4 => ?_) (fun hc4 => ?_)
    · replace hP := hP.1 hc4
      refine im_ld (q := 59) (i := 0) D176_58 rfl rfl rfl ?_
      refine im_ld (q := 60) (i := 3) D176_59 rfl rfl rfl ?_
      refine im_callV (q := 63) (kd := 1) (y := 182) (n := 1) (ci := 10) (a := 7) (vs := [.ref 7, vI (M 14 p2)]) (r := []) (L2 := [some (.ref 7), some (vI (M 14 p2))]) D176_60 (im_cal cn_176 cl_10_88) (Or.inl rfl) rfl sf_7 rfl rfl rfl rfl hd ⟨rfl, rfl, trivial⟩ ?_
      refine hP.mono ?_
      rintro _ e14 M7 ⟨rfl, rfl, hP⟩
      refine im_bkN ?_
      refine im_ld (q := 64) (i := 3) D176_63 rfl rfl rfl ?_
      refine im_callS (q := 67) (kd := 6) (y := 60) (n := 1) (z := 11) (vs := [vI (M 14 p2)]) (r := []) (L2 := [some (vI (M 14 p2))]) D176_64 rfl (im_cal cn_176 cl_10_108) (Or.inr rfl) rfl rfl rfl rfl rfl hd ⟨rfl, trivial⟩ ?_
      refine hP.mono ?_
      rintro _ e13 M8 ⟨u9, rfl, rfl, hP⟩
      refine im_bkS ?_
      obtain ⟨hu_u9, hP⟩ := hP
      refine im_stF (q := 69) (i := 4) (L' := [some (.ref 7), some (.ref 13), some (vI p2), some (vI (M 14 p2)), some (.float u9), none]) D176_67 (Or.inr rfl) (Nat.le_of_ble_eq_true rfl) (Nat.le_of_ble_eq_true (im_u9 hu_u9)) rfl ?_
      refine im_ld (q := 71) (i := 4) D176_69 rfl rfl (im_u9 hu_u9) ?_
      refine im_callF (q := 74) (kd := 9) (y := 3) (n := 0) (z := 0) (vs := [.float u9]) (r := []) (L2 := [some (.float u9)]) D176_71 (im_cal cn_176 cl_10_112) rfl rfl hu_u9 rfl rfl rfl hd ⟨rfl, trivial⟩ ?_
      refine hP.mono ?_
      rintro _ e12 M10 ⟨x11, rfl, rfl, hP⟩
      refine im_bkS ?_
      refine im_iconst (q := 75) D176_74 ?_
      refine im_isub (q := 76) D176_75 ?_
      refine im_st1 (q := 78) (i := 5) (L' := [some (.ref 7), some (.ref 13), some (vI p2), some (vI (M 14 p2)), some (.float u9), some (vI (x11 - 1))]) D176_76 (Or.inr rfl) (Nat.le_of_ble_eq_true rfl) rfl ?_
      exact hP.wk ⟨rfl, rfl, rfl, rfl, trivial⟩
    · replace hP := hP.2 (Decidable.not_not.mp hc4)
      refine im_ld (q := 46) (i := 0) D176_45 rfl rfl rfl ?_
      refine im_ld (q := 47) (i := 1) D176_46 rfl rfl rfl ?_
      refine im_gfR (q := 50) (b := 19) D176_47 (im_fl cn_176 fl_10_102) sf_13 rfl rfl tR_5_5 rfl ?_
      refine im_ld (q := 51) (i := 2) D176_50 rfl rfl rfl ?_
      refine im_rng (j := p2) sf_19 hg1.1 hg1.2 (fun hr5 => ?_)
      refine im_lald (q := 52) D176_51 sf_19 hg1.1 hg1.2 (by decide) rfl ?_
      refine im_callV (q := 55) (kd := 1) (y := 179) (n := 1) (ci := 10) (a := 7) (vs := [.ref 7, vL (M 19 p2)]) (r := []) (L2 := [some (.ref 7), some (vL (M 19 p2)), none]) D176_52 (im_cal cn_176 cl_10_105) (Or.inl rfl) rfl sf_7 rfl rfl rfl rfl hd ⟨rfl, rfl, trivial⟩ ?_
      refine hP.mono ?_
      rintro _ e22 M15 ⟨rfl, rfl, hP⟩
      refine im_bkN ?_
      refine im_goto (q := 58) (t := 63) D176_55 rfl ?_
      refine im_ld (q := 64) (i := 3) D176_63 rfl rfl rfl ?_
      refine im_callS (q := 67) (kd := 6) (y := 60) (n := 1) (z := 11) (vs := [vI (M 14 p2)]) (r := []) (L2 := [some (vI (M 14 p2))]) D176_64 rfl (im_cal cn_176 cl_10_108) (Or.inr rfl) rfl rfl rfl rfl rfl hd ⟨rfl, trivial⟩ ?_
      refine hP.mono ?_
      rintro _ e21 M16 ⟨u17, rfl, rfl, hP⟩
      refine im_bkS ?_
      obtain ⟨hu_u17, hP⟩ := hP
      refine im_stF (q := 69) (i := 4) (L' := [some (.ref 7), some (.ref 13), some (vI p2), some (vI (M 14 p2)), some (.float u17), none]) D176_67 (Or.inr rfl) (Nat.le_of_ble_eq_true rfl) (Nat.le_of_ble_eq_true (im_u9 hu_u17)) rfl ?_
      refine im_ld (q := 71) (i := 4) D176_69 rfl rfl (im_u9 hu_u17) ?_
      refine im_callF (q := 74) (kd := 9) (y := 3) (n := 0) (z := 0) (vs := [.float u17]) (r := []) (L2 := [some (.float u17)]) D176_71 (im_cal cn_176 cl_10_112) rfl rfl hu_u17 rfl rfl rfl hd ⟨rfl, trivial⟩ ?_
      refine hP.mono ?_
      rintro _ e20 M18 ⟨x19, rfl, rfl, hP⟩
      refine im_bkS ?_
      refine im_iconst (q := 75) D176_74 ?_
      refine im_isub (q := 76) D176_75 ?_
      refine im_st1 (q := 78) (i := 5) (L' := [some (.ref 7), some (.ref 13), some (vI p2), some (vI (M 14 p2)), some (.float u17), some (vI (x19 - 1))]) D176_76 (Or.inr rfl) (Nat.le_of_ble_eq_true rfl) rfl ?_
      exact hP.wk ⟨rfl, rfl, rfl, rfl, trivial⟩
  · replace hP := hP.2 (Decidable.not_not.mp hc3)
    refine im_ld (q := 14) (i := 1) D176_13 rfl rfl rfl ?_
    refine im_ld (q := 15) (i := 1) D176_14 rfl rfl rfl ?_
    refine im_gfR (q := 18) (b := 18) D176_15 (im_fl cn_176 fl_10_95) sf_13 rfl rfl tR_5_4 rfl ?_
    refine im_ld (q := 19) (i := 2) D176_18 rfl rfl rfl ?_
    refine im_rng (j := p2) sf_18 hg1.1 hg1.2 (fun hr6 => ?_)
    refine im_iald (q := 20) D176_19 sf_18 hg1.1 hg1.2 (by decide) rfl ?_
    refine im_ld (q := 21) (i := 0) D176_20 rfl rfl rfl ?_
    refine im_gfR (q := 24) (b := 11) D176_21 (im_fl cn_176 fl_10_25) sf_7 rfl rfl tR_10_6 rfl ?_
    refine im_callV (q := 27) (kd := 1) (y := 125) (n := 2) (ci := 5) (a := 13) (vs := [.ref 13, vI (M 18 p2), .ref 11]) (r := []) (L2 := [some (.ref 13), some (vI (M 18 p2)), some (.ref 11), none]) D176_24 (im_cal cn_176 cl_10_98) (Or.inl rfl) rfl sf_13 rfl rfl rfl rfl hd ⟨rfl, rfl, rfl, trivial⟩ ?_
    refine hP.mono ?_
    rintro _ e33 M23 ⟨x24, rfl, rfl, hP⟩
    refine im_bkS ?_
    refine im_pop (q := 28) D176_27 rfl ?_
    refine im_ld (q := 29) (i := 0) D176_28 rfl rfl rfl ?_
    refine im_ld (q := 30) (i := 0) D176_29 rfl rfl rfl ?_
    refine im_gfR (q := 33) (b := 11) D176_30 (im_fl cn_176 fl_10_25) sf_7 rfl rfl tR_10_6 rfl ?_
    refine im_callV (q := 36) (kd := 1) (y := 177) (n := 1) (ci := 10) (a := 7) (vs := [.ref 7, .ref 11]) (r := []) (L2 := [some (.ref 7), some (.ref 11), none, none, none, none]) D176_33 (im_cal cn_176 cl_10_64) (Or.inl rfl) rfl sf_7 rfl rfl rfl rfl hd ⟨rfl, rfl, trivial⟩ ?_
    refine hP.mono ?_
    rintro _ e32 M25 ⟨rfl, rfl, hP⟩
    refine im_bkN ?_
    refine im_goto (q := 39) (t := 63) D176_36 rfl ?_
    refine im_ld (q := 64) (i := 3) D176_63 rfl rfl rfl ?_
    refine im_callS (q := 67) (kd := 6) (y := 60) (n := 1) (z := 11) (vs := [vI (M 14 p2)]) (r := []) (L2 := [some (vI (M 14 p2))]) D176_64 rfl (im_cal cn_176 cl_10_108) (Or.inr rfl) rfl rfl rfl rfl rfl hd ⟨rfl, trivial⟩ ?_
    refine hP.mono ?_
    rintro _ e31 M26 ⟨u27, rfl, rfl, hP⟩
    refine im_bkS ?_
    obtain ⟨hu_u27, hP⟩ := hP
    refine im_stF (q := 69) (i := 4) (L' := [some (.ref 7), some (.ref 13), some (vI p2), some (vI (M 14 p2)), some (.float u27), none]) D176_67 (Or.inr rfl) (Nat.le_of_ble_eq_true rfl) (Nat.le_of_ble_eq_true (im_u9 hu_u27)) rfl ?_
    refine im_ld (q := 71) (i := 4) D176_69 rfl rfl (im_u9 hu_u27) ?_
    refine im_callF (q := 74) (kd := 9) (y := 3) (n := 0) (z := 0) (vs := [.float u27]) (r := []) (L2 := [some (.float u27)]) D176_71 (im_cal cn_176 cl_10_112) rfl rfl hu_u27 rfl rfl rfl hd ⟨rfl, trivial⟩ ?_
    refine hP.mono ?_
    rintro _ e30 M28 ⟨x29, rfl, rfl, hP⟩
    refine im_bkS ?_
    refine im_iconst (q := 75) D176_74 ?_
    refine im_isub (q := 76) D176_75 ?_
    refine im_st1 (q := 78) (i := 5) (L' := [some (.ref 7), some (.ref 13), some (vI p2), some (vI (M 14 p2)), some (.float u27), some (vI (x29 - 1))]) D176_76 (Or.inr rfl) (Nat.le_of_ble_eq_true rfl) rfl ?_
    exact hP.wk ⟨rfl, rfl, rfl, rfl, trivial⟩
set_option maxRecDepth 20000 in
set_option maxHeartbeats 4000000 in
theorem k_Writer_node_78 {g : im_g} {d : Nat} {e : im_E} {M : im_M} {K : im_K} {p2 p5 : Int} {p4 : UInt32} (hu_p4 : Nat.blt p4.toNat 30 = true) (hd : 1 ≤ d) (hP : (im_i32 p5) ∧ ((p5 < 0 → K (.inl none) e M) ∧ (0 ≤ p5 → im_T g (d - 1) 5 0 [some (.float p4), some (vI p5)] [] e M (im_ri (fun x4 e_ M3 => e = e_ ∧ im_T g (d - 1) 175 0 [some (.ref 7), some (vI x4), some (vI p2)] [] e M3 (im_r0 (fun  e_ M5 => e = e_ ∧ im_T g d 176 78 [some (.ref 7), none, some (vI p2), none, some (.float p4), some (vI (p5 + (-1)))] [] e M5 K))))))) : im_T g d 176 78 [some (.ref 7), none, some (vI p2), none, some (.float p4), some (vI p5)] [] e M K := by
  refine im_ld (q := 80) (i := 5) D176_78 rfl rfl rfl ?_
  obtain ⟨hg1, hP⟩ := hP
  refine im_ifc (q := 83) (t := 101) D176_80 rfl hg1 (fun hc2 => ?_) (fun hc2 => ?_)
  · replace hP := hP.1 hc2
    exact im_vret (q := 102) D176_101 rfl hP
  · replace hP := hP.2 (Int.not_lt.mp hc2)
    refine im_ld (q := 84) (i := 0) D176_83 rfl rfl rfl ?_
    refine im_ld (q := 86) (i := 4) D176_84 rfl rfl (im_u9 hu_p4) ?_
    refine im_ld (q := 88) (i := 5) D176_86 rfl rfl rfl ?_
    refine im_callF (q := 91) (kd := 9) (y := 5) (n := 1) (z := 0) (vs := [.float p4, vI p5]) (r := [.ref 7]) (L2 := [some (.float p4), some (vI p5)]) D176_88 (im_cal cn_176 cl_10_118) rfl rfl hu_p4 rfl rfl rfl hd ⟨rfl, rfl, trivial⟩ ?_
    refine hP.mono ?_
    rintro _ e7 M3 ⟨x4, rfl, rfl, hP⟩
    refine im_bkS ?_
    refine im_ld (q := 92) (i := 2) D176_91 rfl rfl rfl ?_
    refine im_callV (q := 95) (kd := 1) (y := 175) (n := 2) (ci := 10) (a := 7) (vs := [.ref 7, vI x4, vI p2]) (r := []) (L2 := [some (.ref 7), some (vI x4), some (vI p2)]) D176_92 (im_cal cn_176 cl_10_71) (Or.inl rfl) rfl sf_7 rfl rfl rfl rfl hd ⟨rfl, rfl, rfl, trivial⟩ ?_
    refine hP.mono ?_
    rintro _ e6 M5 ⟨rfl, rfl, hP⟩
    refine im_bkN ?_
    refine im_iinc (q := 98) (i := 5) (L' := [some (.ref 7), none, some (vI p2), none, some (.float p4), some (vI (p5 + (-1)))]) D176_95 rfl (Nat.le_of_ble_eq_true rfl) rfl ?_
    refine im_goto (q := 101) (t := 78) D176_98 rfl ?_
    exact hP.wk ⟨rfl, rfl, rfl, rfl, trivial⟩
set_option maxRecDepth 20000 in
set_option maxHeartbeats 4000000 in
theorem k_Writer_number_0 {g : im_g} {d : Nat} {e : im_E} {M : im_M} {K : im_K} {p1 : Nat} (hp1 : im_num e p1) (hd : 1 ≤ d) (hP : im_T g (d - 1) 178 0 [some (.ref 7)] [] e M (im_r0 (fun  e_ M1 => e = e_ ∧ ((0 ≤ (M1 p1 0) → ((¬ (M1 p1 0) = 0 → im_T g d 177 39 [some (.ref 7), some (.ref p1), some (vI 0), some (vI ((M1 p1 1) - 1)), none, none] [] e M1 K) ∧ ((M1 p1 0) = 0 → im_T g (d - 1) 162 0 [some (.ref 7), some (vI 48)] [] e M1 (im_r0 (fun  e_ M7 => e = e_ ∧ im_T g d 177 39 [some (.ref 7), some (.ref p1), some (vI 0), some (vI ((M7 p1 1) - 1)), none, none] [] e M7 K))))) ∧ ((M1 p1 0) < 0 → im_T g (d - 1) 162 0 [some (.ref 7), some (vI 45)] [] e M1 (im_r0 (fun  e_ M10 => e = e_ ∧ ((¬ (M10 p1 0) = 0 → im_T g d 177 39 [some (.ref 7), some (.ref p1), some (vI 0), some (vI ((M10 p1 1) - 1)), none, none] [] e M10 K) ∧ ((M10 p1 0) = 0 → im_T g (d - 1) 162 0 [some (.ref 7), some (vI 48)] [] e M10 (im_r0 (fun  e_ M14 => e = e_ ∧ im_T g d 177 39 [some (.ref 7), some (.ref p1), some (vI 0), some (vI ((M14 p1 1) - 1)), none, none] [] e M14 K))))))))))) : im_T g d 177 0 [some (.ref 7), some (.ref p1), none, none, none, none] [] e M K := by
  refine im_ld (q := 1) (i := 0) D177_0 rfl rfl rfl ?_
  refine im_callV (q := 4) (kd := 1) (y := 178) (n := 0) (ci := 10) (a := 7) (vs := [.ref 7]) (r := []) (L2 := [some (.ref 7)]) D177_1 (im_cal cn_177 cl_10_41) (Or.inl rfl) rfl sf_7 rfl rfl rfl rfl hd ⟨rfl, trivial⟩ ?_
  refine hP.mono ?_
  rintro _ e18 M1 ⟨rfl, rfl, hP⟩
  refine im_bkN ?_
  refine im_ld (q := 5) (i := 1) D177_4 rfl rfl rfl ?_
  refine im_rng (j := 0) hp1.1 (by decide) (show (0 : Int) < ((3 : Nat) : Int) by decide) (fun hr2 => ?_)
  refine im_gfI (q := 8) D177_5 (im_fl cn_177 fl_10_51) hp1.1 rfl rfl tI_3_0 rfl ?_
  refine im_ifc (q := 11) (t := 17) D177_8 rfl hr2 (fun hc3 => ?_) (fun hc3 => ?_)
  · replace hP := hP.1 hc3
    refine im_ld (q := 18) (i := 1) D177_17 rfl rfl rfl ?_
    refine im_gfI (q := 21) D177_18 (im_fl cn_177 fl_10_51) hp1.1 rfl rfl tI_3_0 rfl ?_
    refine im_ifc (q := 24) (t := 30) D177_21 rfl hr2 (fun hc5 => ?_) (fun hc5 => ?_)
    · replace hP := hP.1 hc5
      refine im_iconst (q := 31) D177_30 ?_
      refine im_st1 (q := 32) (i := 2) (L' := [some (.ref 7), some (.ref p1), some (vI 0), none, none, none]) D177_31 (Or.inl ⟨_, rfl, rfl⟩) (Nat.le_of_ble_eq_true rfl) rfl ?_
      refine im_ld (q := 33) (i := 1) D177_32 rfl rfl rfl ?_
      refine im_rng (j := 1) hp1.1 (by decide) (show (1 : Int) < ((3 : Nat) : Int) by decide) (fun hr6 => ?_)
      refine im_gfI (q := 36) D177_33 (im_fl cn_177 fl_10_54) hp1.1 rfl rfl tI_3_1 rfl ?_
      refine im_iconst (q := 37) D177_36 ?_
      refine im_isub (q := 38) D177_37 ?_
      refine im_st1 (q := 39) (i := 3) (L' := [some (.ref 7), some (.ref p1), some (vI 0), some (vI ((M1 p1 1) - 1)), none, none]) D177_38 (Or.inl ⟨_, rfl, rfl⟩) (Nat.le_of_ble_eq_true rfl) rfl ?_
      exact hP.wk ⟨rfl, rfl, rfl, rfl, trivial⟩
    · replace hP := hP.2 (Decidable.not_not.mp hc5)
      refine im_ld (q := 25) (i := 0) D177_24 rfl rfl rfl ?_
      refine im_bipush (q := 27) D177_25 rfl ?_
      refine im_callV (q := 30) (kd := 1) (y := 162) (n := 1) (ci := 10) (a := 7) (vs := [.ref 7, vI 48]) (r := []) (L2 := [some (.ref 7), some (vI 48)]) D177_27 (im_cal cn_177 cl_10_37) (Or.inl rfl) rfl sf_7 rfl rfl rfl rfl hd ⟨rfl, rfl, trivial⟩ ?_
      refine hP.mono ?_
      rintro _ e9 M7 ⟨rfl, rfl, hP⟩
      refine im_bkN ?_
      refine im_iconst (q := 31) D177_30 ?_
      refine im_st1 (q := 32) (i := 2) (L' := [some (.ref 7), some (.ref p1), some (vI 0), none, none, none]) D177_31 (Or.inl ⟨_, rfl, rfl⟩) (Nat.le_of_ble_eq_true rfl) rfl ?_
      refine im_ld (q := 33) (i := 1) D177_32 rfl rfl rfl ?_
      refine im_rng (j := 1) hp1.1 (by decide) (show (1 : Int) < ((3 : Nat) : Int) by decide) (fun hr8 => ?_)
      refine im_gfI (q := 36) D177_33 (im_fl cn_177 fl_10_54) hp1.1 rfl rfl tI_3_1 rfl ?_
      refine im_iconst (q := 37) D177_36 ?_
      refine im_isub (q := 38) D177_37 ?_
      refine im_st1 (q := 39) (i := 3) (L' := [some (.ref 7), some (.ref p1), some (vI 0), some (vI ((M7 p1 1) - 1)), none, none]) D177_38 (Or.inl ⟨_, rfl, rfl⟩) (Nat.le_of_ble_eq_true rfl) rfl ?_
      exact hP.wk ⟨rfl, rfl, rfl, rfl, trivial⟩
  · replace hP := hP.2 (Int.not_le.mp hc3)
    refine im_ld (q := 12) (i := 0) D177_11 rfl rfl rfl ?_
    refine im_bipush (q := 14) D177_12 rfl ?_
    refine im_callV (q := 17) (kd := 1) (y := 162) (n := 1) (ci := 10) (a := 7) (vs := [.ref 7, vI 45]) (r := []) (L2 := [some (.ref 7), some (vI 45)]) D177_14 (im_cal cn_177 cl_10_37) (Or.inl rfl) rfl sf_7 rfl rfl rfl rfl hd ⟨rfl, rfl, trivial⟩ ?_
    refine hP.mono ?_
    rintro _ e17 M10 ⟨rfl, rfl, hP⟩
    refine im_bkN ?_
    refine im_ld (q := 18) (i := 1) D177_17 rfl rfl rfl ?_
    refine im_rng (j := 0) hp1.1 (by decide) (show (0 : Int) < ((3 : Nat) : Int) by decide) (fun hr11 => ?_)
    refine im_gfI (q := 21) D177_18 (im_fl cn_177 fl_10_51) hp1.1 rfl rfl tI_3_0 rfl ?_
    refine im_ifc (q := 24) (t := 30) D177_21 rfl hr11 (fun hc12 => ?_) (fun hc12 => ?_)
    · replace hP := hP.1 hc12
      refine im_iconst (q := 31) D177_30 ?_
      refine im_st1 (q := 32) (i := 2) (L' := [some (.ref 7), some (.ref p1), some (vI 0), none, none, none]) D177_31 (Or.inl ⟨_, rfl, rfl⟩) (Nat.le_of_ble_eq_true rfl) rfl ?_
      refine im_ld (q := 33) (i := 1) D177_32 rfl rfl rfl ?_
      refine im_rng (j := 1) hp1.1 (by decide) (show (1 : Int) < ((3 : Nat) : Int) by decide) (fun hr13 => ?_)
      refine im_gfI (q := 36) D177_33 (im_fl cn_177 fl_10_54) hp1.1 rfl rfl tI_3_1 rfl ?_
      refine im_iconst (q := 37) D177_36 ?_
      refine im_isub (q := 38) D177_37 ?_
      refine im_st1 (q := 39) (i := 3) (L' := [some (.ref 7), some (.ref p1), some (vI 0), some (vI ((M10 p1 1) - 1)), none, none]) D177_38 (Or.inl ⟨_, rfl, rfl⟩) (Nat.le_of_ble_eq_true rfl) rfl ?_
      exact hP.wk ⟨rfl, rfl, rfl, rfl, trivial⟩
    · replace hP := hP.2 (Decidable.not_not.mp hc12)
      refine im_ld (q := 25) (i := 0) D177_24 rfl rfl rfl ?_
      refine im_bipush (q := 27) D177_25 rfl ?_
      refine im_callV (q := 30) (kd := 1) (y := 162) (n := 1) (ci := 10) (a := 7) (vs := [.ref 7, vI 48]) (r := []) (L2 := [some (.ref 7), some (vI 48)]) D177_27 (im_cal cn_177 cl_10_37) (Or.inl rfl) rfl sf_7 rfl rfl rfl rfl hd ⟨rfl, rfl, trivial⟩ ?_
      refine hP.mono ?_
      rintro _ e16 M14 ⟨rfl, rfl, hP⟩
      refine im_bkN ?_
      refine im_iconst (q := 31) D177_30 ?_
      refine im_st1 (q := 32) (i := 2) (L' := [some (.ref 7), some (.ref p1), some (vI 0), none, none, none]) D177_31 (Or.inl ⟨_, rfl, rfl⟩) (Nat.le_of_ble_eq_true rfl) rfl ?_
      refine im_ld (q := 33) (i := 1) D177_32 rfl rfl rfl ?_
      refine im_rng (j := 1) hp1.1 (by decide) (show (1 : Int) < ((3 : Nat) : Int) by decide) (fun hr15 => ?_)
      refine im_gfI (q := 36) D177_33 (im_fl cn_177 fl_10_54) hp1.1 rfl rfl tI_3_1 rfl ?_
      refine im_iconst (q := 37) D177_36 ?_
      refine im_isub (q := 38) D177_37 ?_
      refine im_st1 (q := 39) (i := 3) (L' := [some (.ref 7), some (.ref p1), some (vI 0), some (vI ((M14 p1 1) - 1)), none, none]) D177_38 (Or.inl ⟨_, rfl, rfl⟩) (Nat.le_of_ble_eq_true rfl) rfl ?_
      exact hP.wk ⟨rfl, rfl, rfl, rfl, trivial⟩
set_option maxRecDepth 20000 in
set_option maxHeartbeats 4000000 in
theorem k_Writer_number_39 {g : im_g} {d : Nat} {e : im_E} {M : im_M} {K : im_K} {p2 p3 : Int} {p1 : Nat} (hp1 : im_num e p1) (hP : (im_i32 p3) ∧ ((p3 < 0 → K (.inl none) e M) ∧ (0 ≤ p3 → im_T g d 177 47 [some (.ref 7), some (.ref p1), some (vI p2), some (vI p3), some (vI 100000000), none] [] e M K))) : im_T g d 177 39 [some (.ref 7), some (.ref p1), some (vI p2), some (vI p3), none, none] [] e M K := by
  refine im_ld (q := 40) (i := 3) D177_39 rfl rfl rfl ?_
  obtain ⟨hg1, hP⟩ := hP
  refine im_ifc (q := 43) (t := 110) D177_40 rfl hg1 (fun hc2 => ?_) (fun hc2 => ?_)
  · replace hP := hP.1 hc2
    exact im_vret (q := 111) D177_110 rfl hP
  · replace hP := hP.2 (Int.not_lt.mp hc2)
    refine im_ldc (q := 45) (n := 100000000) (Or.inl rfl) D177_43 rfl rfl ?_
    refine im_st1 (q := 47) (i := 4) (L' := [some (.ref 7), some (.ref p1), some (vI p2), some (vI p3), some (vI 100000000), none]) D177_45 (Or.inr rfl) (Nat.le_of_ble_eq_true rfl) rfl ?_
    exact hP.wk ⟨rfl, rfl, rfl, rfl, rfl, trivial⟩
set_option maxRecDepth 20000 in
set_option maxHeartbeats 4000000 in
theorem k_Writer_number_47 {g : im_g} {d : Nat} {e : im_E} {M : im_M} {K : im_K} {p2 p3 p4 : Int} {p1 : Nat} (hp1 : im_num e p1) (hd : 1 ≤ d) (hP : (im_i32 p4) ∧ ((p4 ≤ 0 → im_T g d 177 39 [some (.ref 7), some (.ref p1), some (vI p2), some (vI (p3 + (-1))), none, none] [] e M K) ∧ (0 < p4 → (0 ≤ p3 ∧ p3 < 34) ∧ (¬ p4 = 0) ∧ (im_i32 ((M (p1 + 1) p3).tdiv p4)) ∧ (im_i32 p2) ∧ ((((p2 = 0 → (im_i32 (((M (p1 + 1) p3).tdiv p4).tmod 10)) ∧ (((((M (p1 + 1) p3).tdiv p4).tmod 10) = 0 → im_T g d 177 47 [some (.ref 7), some (.ref p1), some (vI 0), some (vI p3), some (vI (p4.tdiv 10)), none] [] e M K))))) ∧ ((((¬ p2 = 0)) ∨ ((p2 = 0) ∧ (¬ (((M (p1 + 1) p3).tdiv p4).tmod 10) = 0))) → im_T g (d - 1) 162 0 [some (.ref 7), some (vI (48 + (((M (p1 + 1) p3).tdiv p4).tmod 10)))] [] e M (im_r0 (fun  e_ M15 => e = e_ ∧ im_T g d 177 47 [some (.ref 7), some (.ref p1), some (vI 1), some (vI p3), some (vI (p4.tdiv 10)), none] [] e M15 K))))))) : im_T g d 177 47 [some (.ref 7), some (.ref p1), some (vI p2), some (vI p3), some (vI p4), none] [] e M K := by
  refine im_ld (q := 49) (i := 4) D177_47 rfl rfl rfl ?_
  obtain ⟨hg1, hP⟩ := hP
  refine im_ifc (q := 52) (t := 104) D177_49 rfl hg1 (fun hc2 => ?_) (fun hc2 => ?_)
  · replace hP := hP.1 hc2
    refine im_iinc (q := 107) (i := 3) (L' := [some (.ref 7), some (.ref p1), some (vI p2), some (vI (p3 + (-1))), some (vI p4), none]) D177_104 rfl (Nat.le_of_ble_eq_true rfl) rfl ?_
    refine im_goto (q := 110) (t := 39) D177_107 rfl ?_
    exact hP.wk ⟨rfl, rfl, rfl, rfl, trivial⟩
  · replace hP := hP.2 (Int.not_le.mp hc2)
    refine im_ld (q := 53) (i := 1) D177_52 rfl rfl rfl ?_
    refine im_gfR (q := 56) (b := (p1 + 1)) D177_53 (im_fl cn_177 fl_10_58) hp1.1 rfl rfl tR_3_2 rfl ?_
    refine im_ld (q := 57) (i := 3) D177_56 rfl rfl rfl ?_
    obtain ⟨hg3, hP⟩ := hP
    refine im_rng (j := p3) hp1.2 hg3.1 hg3.2 (fun hr4 => ?_)
    refine im_iald (q := 58) D177_57 hp1.2 hg3.1 hg3.2 (by decide) rfl ?_
    refine im_ld (q := 60) (i := 4) D177_58 rfl rfl rfl ?_
    obtain ⟨hg5, hP⟩ := hP
    refine im_idiv (q := 61) D177_60 hr4 hg1 hg5 ?_
    refine im_bipush (q := 63) D177_61 rfl ?_
    obtain ⟨hg6, hP⟩ := hP
    refine im_irem (q := 64) D177_63 hg6 (by decide) (by decide) ?_
    refine im_st1 (q := 66) (i := 5) (L' := [some (.ref 7), some (.ref p1), some (vI p2), some (vI p3), some (vI p4), some (vI (((M (p1 + 1) p3).tdiv p4).tmod 10))]) D177_64 (Or.inr rfl) (Nat.le_of_ble_eq_true rfl) rfl ?_
    refine im_ld (q := 67) (i := 2) D177_66 rfl rfl rfl ?_
    obtain ⟨hg7, hP⟩ := hP
    obtain ⟨hP, hJ11⟩ := hP
    have kJ12 : (((¬ p2 = 0)) ∨ ((p2 = 0) ∧ (¬ (((M (p1 + 1) p3).tdiv p4).tmod 10) = 0))) → im_T g d 177 75 [some (.ref 7), some (.ref p1), none, some (vI p3), some (vI p4), some (vI (((M (p1 + 1) p3).tdiv p4).tmod 10))] [] e M K := by
      intro  hx13
      have hP := hJ11  hx13
      refine im_iconst (q := 76) D177_75 ?_
      refine im_goto (q := 79) (t := 80) D177_76 rfl ?_
      refine im_st1 (q := 81) (i := 2) (L' := [some (.ref 7), some (.ref p1), some (vI 1), some (vI p3), some (vI p4), some (vI (((M (p1 + 1) p3).tdiv p4).tmod 10))]) D177_80 (Or.inl ⟨_, rfl, rfl⟩) (Nat.le_of_ble_eq_true rfl) rfl ?_
      refine im_ld (q := 82) (i := 2) D177_81 rfl rfl rfl ?_
      refine im_ifc (q := 85) (t := 94) D177_82 rfl (by decide) (fun hc => absurd hc (show ¬ ((1 : Int) = 0) by decide)) (fun _ => ?_)
      refine im_ld (q := 86) (i := 0) D177_85 rfl rfl rfl ?_
      refine im_bipush (q := 88) D177_86 rfl ?_
      refine im_ld (q := 90) (i := 5) D177_88 rfl rfl rfl ?_
      refine im_iadd (q := 91) D177_90 ?_
      refine im_callV (q := 94) (kd := 1) (y := 162) (n := 1) (ci := 10) (a := 7) (vs := [.ref 7, vI (48 + (((M (p1 + 1) p3).tdiv p4).tmod 10))]) (r := []) (L2 := [some (.ref 7), some (vI (48 + (((M (p1 + 1) p3).tdiv p4).tmod 10)))]) D177_91 (im_cal cn_177 cl_10_37) (Or.inl rfl) rfl sf_7 rfl rfl rfl rfl hd ⟨rfl, rfl, trivial⟩ ?_
      refine hP.mono ?_
      rintro _ e16 M15 ⟨rfl, rfl, hP⟩
      refine im_bkN ?_
      refine im_ld (q := 96) (i := 4) D177_94 rfl rfl rfl ?_
      refine im_bipush (q := 98) D177_96 rfl ?_
      refine im_idiv (q := 99) D177_98 hg1 (by decide) (by decide) ?_
      refine im_st1 (q := 101) (i := 4) (L' := [some (.ref 7), some (.ref p1), some (vI 1), some (vI p3), some (vI (p4.tdiv 10)), some (vI (((M (p1 + 1) p3).tdiv p4).tmod 10))]) D177_99 (Or.inr rfl) (Nat.le_of_ble_eq_true rfl) rfl ?_
      refine im_goto (q := 104) (t := 47) D177_101 rfl ?_
      exact hP.wk ⟨rfl, rfl, rfl, rfl, rfl, trivial⟩
    refine im_ifc (q := 70) (t := 75) D177_67 rfl hg7 (fun hc8 => ?_) (fun hc8 => ?_)
    · exact (kJ12  (Or.inl hc8)).wk ⟨rfl, rfl, rfl, rfl, rfl, trivial⟩
    · replace hP := hP (Decidable.not_not.mp hc8)
      refine im_ld (q := 72) (i := 5) D177_70 rfl rfl rfl ?_
      obtain ⟨hg9, hP⟩ := hP
      refine im_ifc (q := 75) (t := 79) D177_72 rfl hg9 (fun hc10 => ?_) (fun hc10 => ?_)
      · replace hP := hP hc10
        refine im_iconst (q := 80) D177_79 ?_
        refine im_st1 (q := 81) (i := 2) (L' := [some (.ref 7), some (.ref p1), some (vI 0), some (vI p3), some (vI p4), some (vI (((M (p1 + 1) p3).tdiv p4).tmod 10))]) D177_80 (Or.inl ⟨_, rfl, rfl⟩) (Nat.le_of_ble_eq_true rfl) rfl ?_
        refine im_ld (q := 82) (i := 2) D177_81 rfl rfl rfl ?_
        refine im_ifc (q := 85) (t := 94) D177_82 rfl (by decide) (fun _ => ?_) (fun hc => absurd (show (0 : Int) = 0 by decide) hc)
        refine im_ld (q := 96) (i := 4) D177_94 rfl rfl rfl ?_
        refine im_bipush (q := 98) D177_96 rfl ?_
        refine im_idiv (q := 99) D177_98 hg1 (by decide) (by decide) ?_
        refine im_st1 (q := 101) (i := 4) (L' := [some (.ref 7), some (.ref p1), some (vI 0), some (vI p3), some (vI (p4.tdiv 10)), some (vI (((M (p1 + 1) p3).tdiv p4).tmod 10))]) D177_99 (Or.inr rfl) (Nat.le_of_ble_eq_true rfl) rfl ?_
        refine im_goto (q := 104) (t := 47) D177_101 rfl ?_
        exact hP.wk ⟨rfl, rfl, rfl, rfl, rfl, trivial⟩
      · exact (kJ12  (Or.inr ⟨(Decidable.not_not.mp hc8), hc10⟩)).wk ⟨rfl, rfl, rfl, rfl, rfl, trivial⟩
set_option maxRecDepth 20000 in
set_option maxHeartbeats 4000000 in
theorem k_Writer_gap_0 {g : im_g} {d : Nat} {e : im_E} {M : im_M} {K : im_K} (hd : 1 ≤ d) (hP : (((M 7 1) ≤ 0 → K (.inl none) e M) ∧ (0 < (M 7 1) → im_T g (d - 1) 162 0 [some (.ref 7), some (vI 32)] [] e M (im_r0 (fun  e_ M3 => e = e_ ∧ K (.inl none) e M3))))) : im_T g d 178 0 [some (.ref 7)] [] e M K := by
  refine im_ld (q := 1) (i := 0) D178_0 rfl rfl rfl ?_
  refine im_rng (j := 1) sf_7 (by decide) (by decide) (fun hr1 => ?_)
  refine im_gfI (q := 4) D178_1 (im_fl cn_178 fl_10_33) sf_7 rfl rfl tI_10_1 rfl ?_
  refine im_ifc (q := 7) (t := 13) D178_4 rfl hr1 (fun hc2 => ?_) (fun hc2 => ?_)
  · replace hP := hP.1 hc2
    exact im_vret (q := 14) D178_13 rfl hP
  · replace hP := hP.2 (Int.not_le.mp hc2)
    refine im_ld (q := 8) (i := 0) D178_7 rfl rfl rfl ?_
    refine im_bipush (q := 10) D178_8 rfl ?_
    refine im_callV (q := 13) (kd := 1) (y := 162) (n := 1) (ci := 10) (a := 7) (vs := [.ref 7, vI 32]) (r := []) (L2 := [some (.ref 7), some (vI 32)]) D178_10 (im_cal cn_178 cl_10_37) (Or.inl rfl) rfl sf_7 rfl rfl rfl rfl hd ⟨rfl, rfl, trivial⟩ ?_
    refine hP.mono ?_
    rintro _ e4 M3 ⟨rfl, rfl, hP⟩
    refine im_bkN ?_
    exact im_vret (q := 14) D178_13 rfl hP
set_option maxRecDepth 20000 in
set_option maxHeartbeats 4000000 in
theorem k_Writer_named_0 {g : im_g} {d : Nat} {e : im_E} {M : im_M} {K : im_K} {p1 : Int} (hd : 1 ≤ d) (hP : im_T g (d - 1) 180 0 [some (.ref 7), some (vI 63)] [] e M (im_r0 (fun  e_ M1 => e = e_ ∧ im_T g (d - 1) 181 0 [some (.ref 7), some (vL p1), none, none] [] e M1 (im_r0 (fun  e_ M2 => e = e_ ∧ K (.inl none) e M2))))) : im_T g d 179 0 [some (.ref 7), some (vL p1), none] [] e M K := by
  refine im_ld (q := 1) (i := 0) D179_0 rfl rfl rfl ?_
  refine im_bipush (q := 3) D179_1 rfl ?_
  refine im_callV (q := 6) (kd := 1) (y := 180) (n := 1) (ci := 10) (a := 7) (vs := [.ref 7, vI 63]) (r := []) (L2 := [some (.ref 7), some (vI 63)]) D179_3 (im_cal cn_179 cl_10_122) (Or.inl rfl) rfl sf_7 rfl rfl rfl rfl hd ⟨rfl, rfl, trivial⟩ ?_
  refine hP.mono ?_
  rintro _ e4 M1 ⟨rfl, rfl, hP⟩
  refine im_bkN ?_
  refine im_ld (q := 7) (i := 0) D179_6 rfl rfl rfl ?_
  refine im_ld (q := 8) (i := 1) D179_7 rfl rfl rfl ?_
  refine im_callV (q := 11) (kd := 1) (y := 181) (n := 1) (ci := 10) (a := 7) (vs := [.ref 7, vL p1]) (r := []) (L2 := [some (.ref 7), some (vL p1), none, none]) D179_8 (im_cal cn_179 cl_10_44) (Or.inl rfl) rfl sf_7 rfl rfl rfl rfl hd ⟨rfl, rfl, trivial⟩ ?_
  refine hP.mono ?_
  rintro _ e3 M2 ⟨rfl, rfl, hP⟩
  refine im_bkN ?_
  exact im_vret (q := 12) D179_11 rfl hP
set_option maxRecDepth 20000 in
set_option maxHeartbeats 4000000 in
theorem k_Writer_sign_0 {g : im_g} {d : Nat} {e : im_E} {M : im_M} {K : im_K} {p1 : Int} (hd : 1 ≤ d) (hP : im_T g (d - 1) 178 0 [some (.ref 7)] [] e M (im_r0 (fun  e_ M1 => e = e_ ∧ im_T g (d - 1) 162 0 [some (.ref 7), some (vI p1)] [] e M1 (im_r0 (fun  e_ M2 => e = e_ ∧ K (.inl none) e M2))))) : im_T g d 180 0 [some (.ref 7), some (vI p1)] [] e M K := by
  refine im_ld (q := 1) (i := 0) D180_0 rfl rfl rfl ?_
  refine im_callV (q := 4) (kd := 1) (y := 178) (n := 0) (ci := 10) (a := 7) (vs := [.ref 7]) (r := []) (L2 := [some (.ref 7)]) D180_1 (im_cal cn_180 cl_10_41) (Or.inl rfl) rfl sf_7 rfl rfl rfl rfl hd ⟨rfl, trivial⟩ ?_
  refine hP.mono ?_
  rintro _ e4 M1 ⟨rfl, rfl, hP⟩
  refine im_bkN ?_
  refine im_ld (q := 5) (i := 0) D180_4 rfl rfl rfl ?_
  refine im_ld (q := 6) (i := 1) D180_5 rfl rfl rfl ?_
  refine im_callV (q := 9) (kd := 1) (y := 162) (n := 1) (ci := 10) (a := 7) (vs := [.ref 7, vI p1]) (r := []) (L2 := [some (.ref 7), some (vI p1)]) D180_6 (im_cal cn_180 cl_10_37) (Or.inl rfl) rfl sf_7 rfl rfl rfl rfl hd ⟨rfl, rfl, trivial⟩ ?_
  refine hP.mono ?_
  rintro _ e3 M2 ⟨rfl, rfl, hP⟩
  refine im_bkN ?_
  exact im_vret (q := 10) D180_9 rfl hP
set_option maxRecDepth 20000 in
set_option maxHeartbeats 4000000 in
theorem k_Writer_putCode_0 {g : im_g} {d : Nat} {e : im_E} {M : im_M} {K : im_K} {p1 : Int} (hP : im_T g d 181 3 [some (.ref 7), some (vL p1), none, some (vI 56)] [] e M K) : im_T g d 181 0 [some (.ref 7), some (vL p1), none, none] [] e M K := by
  refine im_bipush (q := 2) D181_0 rfl ?_
  refine im_st1 (q := 3) (i := 3) (L' := [some (.ref 7), some (vL p1), none, some (vI 56)]) D181_2 (Or.inl ⟨_, rfl, rfl⟩) (Nat.le_of_ble_eq_true rfl) rfl ?_
  exact hP.wk ⟨rfl, rfl, rfl, trivial⟩
set_option maxRecDepth 20000 in
set_option maxHeartbeats 4000000 in
theorem k_Writer_putCode_3 {g : im_g} {d : Nat} {e : im_E} {M : im_M} {K : im_K} {p1 p3 : Int} (hd : 1 ≤ d) (hP : (im_i32 p3) ∧ ((p3 < 0 → K (.inl none) e M) ∧ (0 ≤ p3 → (((xlushr p1 p3) = 0 → im_T g d 181 3 [some (.ref 7), some (vL p1), none, some (vI (p3 + (-8)))] [] e M K) ∧ (¬ (xlushr p1 p3) = 0 → im_T g (d - 1) 162 0 [some (.ref 7), some (vI (xlushr p1 p3))] [] e M (im_r0 (fun  e_ M4 => e = e_ ∧ im_T g d 181 3 [some (.ref 7), some (vL p1), none, some (vI (p3 + (-8)))] [] e M4 K))))))) : im_T g d 181 3 [some (.ref 7), some (vL p1), none, some (vI p3)] [] e M K := by
  refine im_ld (q := 4) (i := 3) D181_3 rfl rfl rfl ?_
  obtain ⟨hg1, hP⟩ := hP
  refine im_ifc (q := 7) (t := 29) D181_4 rfl hg1 (fun hc2 => ?_) (fun hc2 => ?_)
  · replace hP := hP.1 hc2
    exact im_vret (q := 30) D181_29 rfl hP
  · replace hP := hP.2 (Int.not_lt.mp hc2)
    refine im_ld (q := 8) (i := 1) D181_7 rfl rfl rfl ?_
    refine im_ld (q := 9) (i := 3) D181_8 rfl rfl rfl ?_
    refine im_lushr (q := 10) D181_9 ?_
    refine im_lconst (q := 11) (z := 0) D181_10 rfl ?_
    refine im_lif (q := 12) (q2 := 15) (t := 23) D181_11 D181_12 rfl (xlushr_r _ _) (by decide) (fun hc3 => ?_) (fun hc3 => ?_)
    · replace hP := hP.1 hc3
      refine im_iinc (q := 26) (i := 3) (L' := [some (.ref 7), some (vL p1), none, some (vI (p3 + (-8)))]) D181_23 rfl (Nat.le_of_ble_eq_true rfl) rfl ?_
      refine im_goto (q := 29) (t := 3) D181_26 rfl ?_
      exact hP.wk ⟨rfl, rfl, rfl, trivial⟩
    · replace hP := hP.2 hc3
      refine im_ld (q := 16) (i := 0) D181_15 rfl rfl rfl ?_
      refine im_ld (q := 17) (i := 1) D181_16 rfl rfl rfl ?_
      refine im_ld (q := 18) (i := 3) D181_17 rfl rfl rfl ?_
      refine im_lushr (q := 19) D181_18 ?_
      refine im_l2i (q := 20) D181_19 ?_
      refine im_callV (q := 23) (kd := 1) (y := 162) (n := 1) (ci := 10) (a := 7) (vs := [.ref 7, vI (xlushr p1 p3)]) (r := []) (L2 := [some (.ref 7), some (vI (xlushr p1 p3))]) D181_20 (im_cal cn_181 cl_10_37) (Or.inl rfl) rfl sf_7 rfl rfl rfl rfl hd ⟨rfl, rfl, trivial⟩ ?_
      refine hP.mono ?_
      rintro _ e5 M4 ⟨rfl, rfl, hP⟩
      refine im_bkN ?_
      refine im_iinc (q := 26) (i := 3) (L' := [some (.ref 7), some (vL p1), none, some (vI (p3 + (-8)))]) D181_23 rfl (Nat.le_of_ble_eq_true rfl) rfl ?_
      refine im_goto (q := 29) (t := 3) D181_26 rfl ?_
      exact hP.wk ⟨rfl, rfl, rfl, trivial⟩
set_option maxRecDepth 20000 in
set_option maxHeartbeats 4000000 in
theorem k_Writer_keyword_0 {g : im_g} {d : Nat} {e : im_E} {M : im_M} {K : im_K} {p1 : Int} (hd : 1 ≤ d) (hP : (im_i32 p1) ∧ ((((0 ≤ p1 → ((p1 < 34 → (0 ≤ p1 ∧ p1 < 34) ∧ im_T g (d - 1) 183 0 [some (.ref 7), some (vL (M 3 p1)), none] [] e M (im_r0 (fun  e_ M9 => e = e_ ∧ K (.inl none) e M9))))))) ∧ ((((p1 < 0)) ∨ ((0 ≤ p1) ∧ (34 ≤ p1))) → K (.inl none) e M))) : im_T g d 182 0 [some (.ref 7), some (vI p1)] [] e M K := by
  refine im_ld (q := 1) (i := 1) D182_0 rfl rfl rfl ?_
  obtain ⟨hg1, hP⟩ := hP
  obtain ⟨hP, hJ6⟩ := hP
  have kJ7 : (((p1 < 0)) ∨ ((0 ≤ p1) ∧ (34 ≤ p1))) → im_T g d 182 20 [none, none] [] e M K := by
    intro  hx8
    have hP := hJ6  hx8
    exact im_vret (q := 21) D182_20 rfl hP
  refine im_ifc (q := 4) (t := 20) D182_1 rfl hg1 (fun hc2 => ?_) (fun hc2 => ?_)
  · exact (kJ7  (Or.inl hc2)).wk trivial
  · replace hP := hP (Int.not_lt.mp hc2)
    refine im_ld (q := 5) (i := 1) D182_4 rfl rfl rfl ?_
    refine im_bipush (q := 7) D182_5 rfl ?_
    refine im_icmp (q := 10) (t := 20) D182_7 rfl hg1 (by decide) (fun hc3 => ?_) (fun hc3 => ?_)
    · exact (kJ7  (Or.inr ⟨(Int.not_lt.mp hc2), hc3⟩)).wk trivial
    · replace hP := hP (Int.not_le.mp hc3)
      refine im_ld (q := 11) (i := 0) D182_10 rfl rfl rfl ?_
      refine im_ld (q := 12) (i := 0) D182_11 rfl rfl rfl ?_
      refine im_gfR (q := 15) (b := 3) D182_12 (im_fl cn_182 fl_10_29) sf_7 rfl rfl tR_10_2 rfl ?_
      refine im_ld (q := 16) (i := 1) D182_15 rfl rfl rfl ?_
      obtain ⟨hg4, hP⟩ := hP
      refine im_rng (j := p1) sf_3 hg4.1 hg4.2 (fun hr5 => ?_)
      refine im_lald (q := 17) D182_16 sf_3 hg4.1 hg4.2 (by decide) rfl ?_
      refine im_callV (q := 20) (kd := 1) (y := 183) (n := 1) (ci := 10) (a := 7) (vs := [.ref 7, vL (M 3 p1)]) (r := []) (L2 := [some (.ref 7), some (vL (M 3 p1)), none]) D182_17 (im_cal cn_182 cl_10_48) (Or.inl rfl) rfl sf_7 rfl rfl rfl rfl hd ⟨rfl, rfl, trivial⟩ ?_
      refine hP.mono ?_
      rintro _ e10 M9 ⟨rfl, rfl, hP⟩
      refine im_bkN ?_
      exact im_vret (q := 21) D182_20 rfl hP
set_option maxRecDepth 20000 in
set_option maxHeartbeats 4000000 in
theorem k_Writer_code_0 {g : im_g} {d : Nat} {e : im_E} {M : im_M} {K : im_K} {p1 : Int} (hd : 1 ≤ d) (hP : im_T g (d - 1) 178 0 [some (.ref 7)] [] e M (im_r0 (fun  e_ M1 => e = e_ ∧ im_T g (d - 1) 181 0 [some (.ref 7), some (vL p1), none, none] [] e M1 (im_r0 (fun  e_ M2 => e = e_ ∧ K (.inl none) e M2))))) : im_T g d 183 0 [some (.ref 7), some (vL p1), none] [] e M K := by
  refine im_ld (q := 1) (i := 0) D183_0 rfl rfl rfl ?_
  refine im_callV (q := 4) (kd := 1) (y := 178) (n := 0) (ci := 10) (a := 7) (vs := [.ref 7]) (r := []) (L2 := [some (.ref 7)]) D183_1 (im_cal cn_183 cl_10_41) (Or.inl rfl) rfl sf_7 rfl rfl rfl rfl hd ⟨rfl, trivial⟩ ?_
  refine hP.mono ?_
  rintro _ e4 M1 ⟨rfl, rfl, hP⟩
  refine im_bkN ?_
  refine im_ld (q := 5) (i := 0) D183_4 rfl rfl rfl ?_
  refine im_ld (q := 6) (i := 1) D183_5 rfl rfl rfl ?_
  refine im_callV (q := 9) (kd := 1) (y := 181) (n := 1) (ci := 10) (a := 7) (vs := [.ref 7, vL p1]) (r := []) (L2 := [some (.ref 7), some (vL p1), none, none]) D183_6 (im_cal cn_183 cl_10_44) (Or.inl rfl) rfl sf_7 rfl rfl rfl rfl hd ⟨rfl, rfl, trivial⟩ ?_
  refine hP.mono ?_
  rintro _ e3 M2 ⟨rfl, rfl, hP⟩
  refine im_bkN ?_
  exact im_vret (q := 10) D183_9 rfl hP
set_option maxRecDepth 20000 in
set_option maxHeartbeats 4000000 in
theorem k_Writer_part_0 {g : im_g} {d : Nat} {e : im_E} {M : im_M} {K : im_K} {p2 p3 : Int} (hd : 1 ≤ d) (hP : (im_i32 p2) ∧ ((p2 = 49 → (0 ≤ p3 ∧ p3 < 5000) ∧ im_T g (d - 1) 183 0 [some (.ref 7), some (vL (M 19 p3)), none] [] e M (im_r0 (fun  e_ M4 => e = e_ ∧ K (.inl none) e M4))) ∧ (p2 = 50 → (0 ≤ p3 ∧ p3 < 5000) ∧ im_T g (d - 1) 183 0 [some (.ref 7), some (vL (M 20 p3)), none] [] e M (im_r0 (fun  e_ M9 => e = e_ ∧ K (.inl none) e M9))) ∧ (p2 = 51 → (0 ≤ p3 ∧ p3 < 5000) ∧ im_T g (d - 1) 183 0 [some (.ref 7), some (vL (M 21 p3)), none] [] e M (im_r0 (fun  e_ M14 => e = e_ ∧ K (.inl none) e M14))) ∧ (p2 = 100 → (0 ≤ p3 ∧ p3 < 5000) ∧ ((∀ x20 : Int, (((¬ (M 18 p3) = 1) ∧ x20 = 32) ∨ (((M 18 p3) = 1) ∧ x20 = 33)) → im_T g (d - 1) 182 0 [some (.ref 7), some (vI x20)] [] e M (im_r0 (fun  e_ M24 => e = e_ ∧ K (.inl none) e M24))))) ∧ (p2 = 91 → im_T g (d - 1) 180 0 [some (.ref 7), some (vI 91)] [] e M (im_r0 (fun  e_ M27 => e = e_ ∧ K (.inl none) e M27))) ∧ (p2 = 107 → im_T g (d - 1) 180 0 [some (.ref 7), some (vI 93)] [] e M (im_r0 (fun  e_ M30 => e = e_ ∧ K (.inl none) e M30))) ∧ (p2 = 98 → im_T g (d - 1) 185 0 [some (.ref 7), some (.ref 13), some (vI p3), none, none] [] e M (im_r0 (fun  e_ M33 => e = e_ ∧ K (.inl none) e M33))) ∧ (¬ p2 = 49 ∧ ¬ p2 = 50 ∧ ¬ p2 = 51 ∧ ¬ p2 = 91 ∧ ¬ p2 = 98 ∧ ¬ p2 = 100 ∧ ¬ p2 = 107 → im_T g (d - 1) 186 0 [some (.ref 7), some (.ref 13), some (vI p3)] [] e M (im_r0 (fun  e_ M36 => e = e_ ∧ K (.inl none) e M36))))) : im_T g d 184 0 [some (.ref 7), some (.ref 13), some (vI p2), some (vI p3)] [] e M K := by
  refine im_ld (q := 1) (i := 2) D184_0 rfl rfl rfl ?_
  obtain ⟨hg1, hP⟩ := hP
  by_cases hc6 : p2 = 49
  · refine im_lsw (q := 2) (t := 68) D184_1 hg1 rfl (by rcases hc6 with hc6 <;> (rw [hc6]; rfl)) ?_
    replace hP := hP.1 hc6
    refine im_ld (q := 69) (i := 0) D184_68 rfl rfl rfl ?_
    refine im_ld (q := 70) (i := 1) D184_69 rfl rfl rfl ?_
    refine im_gfR (q := 73) (b := 19) D184_70 (im_fl cn_184 fl_10_102) sf_13 rfl rfl tR_5_5 rfl ?_
    refine im_ld (q := 74) (i := 3) D184_73 rfl rfl rfl ?_
    obtain ⟨hg2, hP⟩ := hP
    refine im_rng (j := p3) sf_19 hg2.1 hg2.2 (fun hr3 => ?_)
    refine im_lald (q := 75) D184_74 sf_19 hg2.1 hg2.2 (by decide) rfl ?_
    refine im_callV (q := 78) (kd := 1) (y := 183) (n := 1) (ci := 10) (a := 7) (vs := [.ref 7, vL (M 19 p3)]) (r := []) (L2 := [some (.ref 7), some (vL (M 19 p3)), none]) D184_75 (im_cal cn_184 cl_10_48) (Or.inl rfl) rfl sf_7 rfl rfl rfl rfl hd ⟨rfl, rfl, trivial⟩ ?_
    refine hP.mono ?_
    rintro _ e5 M4 ⟨rfl, rfl, hP⟩
    refine im_bkN ?_
    refine im_goto (q := 81) (t := 164) D184_78 rfl ?_
    exact im_vret (q := 165) D184_164 rfl hP
  by_cases hc11 : p2 = 50
  · refine im_lsw (q := 2) (t := 81) D184_1 hg1 rfl (by rcases hc11 with hc11 <;> (rw [hc11]; rfl)) ?_
    replace hP := hP.2.1 hc11
    refine im_ld (q := 82) (i := 0) D184_81 rfl rfl rfl ?_
    refine im_ld (q := 83) (i := 1) D184_82 rfl rfl rfl ?_
    refine im_gfR (q := 86) (b := 20) D184_83 (im_fl cn_184 fl_10_124) sf_13 rfl rfl tR_5_6 rfl ?_
    refine im_ld (q := 87) (i := 3) D184_86 rfl rfl rfl ?_
    obtain ⟨hg7, hP⟩ := hP
    refine im_rng (j := p3) sf_20 hg7.1 hg7.2 (fun hr8 => ?_)
    refine im_lald (q := 88) D184_87 sf_20 hg7.1 hg7.2 (by decide) rfl ?_
    refine im_callV (q := 91) (kd := 1) (y := 183) (n := 1) (ci := 10) (a := 7) (vs := [.ref 7, vL (M 20 p3)]) (r := []) (L2 := [some (.ref 7), some (vL (M 20 p3)), none]) D184_88 (im_cal cn_184 cl_10_48) (Or.inl rfl) rfl sf_7 rfl rfl rfl rfl hd ⟨rfl, rfl, trivial⟩ ?_
    refine hP.mono ?_
    rintro _ e10 M9 ⟨rfl, rfl, hP⟩
    refine im_bkN ?_
    refine im_goto (q := 94) (t := 164) D184_91 rfl ?_
    exact im_vret (q := 165) D184_164 rfl hP
  by_cases hc16 : p2 = 51
  · refine im_lsw (q := 2) (t := 94) D184_1 hg1 rfl (by rcases hc16 with hc16 <;> (rw [hc16]; rfl)) ?_
    replace hP := hP.2.2.1 hc16
    refine im_ld (q := 95) (i := 0) D184_94 rfl rfl rfl ?_
    refine im_ld (q := 96) (i := 1) D184_95 rfl rfl rfl ?_
    refine im_gfR (q := 99) (b := 21) D184_96 (im_fl cn_184 fl_10_127) sf_13 rfl rfl tR_5_7 rfl ?_
    refine im_ld (q := 100) (i := 3) D184_99 rfl rfl rfl ?_
    obtain ⟨hg12, hP⟩ := hP
    refine im_rng (j := p3) sf_21 hg12.1 hg12.2 (fun hr13 => ?_)
    refine im_lald (q := 101) D184_100 sf_21 hg12.1 hg12.2 (by decide) rfl ?_
    refine im_callV (q := 104) (kd := 1) (y := 183) (n := 1) (ci := 10) (a := 7) (vs := [.ref 7, vL (M 21 p3)]) (r := []) (L2 := [some (.ref 7), some (vL (M 21 p3)), none]) D184_101 (im_cal cn_184 cl_10_48) (Or.inl rfl) rfl sf_7 rfl rfl rfl rfl hd ⟨rfl, rfl, trivial⟩ ?_
    refine hP.mono ?_
    rintro _ e15 M14 ⟨rfl, rfl, hP⟩
    refine im_bkN ?_
    refine im_goto (q := 107) (t := 164) D184_104 rfl ?_
    exact im_vret (q := 165) D184_164 rfl hP
  by_cases hc26 : p2 = 100
  · refine im_lsw (q := 2) (t := 107) D184_1 hg1 rfl (by rcases hc26 with hc26 <;> (rw [hc26]; rfl)) ?_
    replace hP := hP.2.2.2.1 hc26
    refine im_ld (q := 108) (i := 0) D184_107 rfl rfl rfl ?_
    refine im_ld (q := 109) (i := 1) D184_108 rfl rfl rfl ?_
    refine im_gfR (q := 112) (b := 18) D184_109 (im_fl cn_184 fl_10_95) sf_13 rfl rfl tR_5_4 rfl ?_
    refine im_ld (q := 113) (i := 3) D184_112 rfl rfl rfl ?_
    obtain ⟨hg17, hP⟩ := hP
    refine im_rng (j := p3) sf_18 hg17.1 hg17.2 (fun hr18 => ?_)
    refine im_iald (q := 114) D184_113 sf_18 hg17.1 hg17.2 (by decide) rfl ?_
    refine im_iconst (q := 115) D184_114 ?_
    have hJ21 := hP
    have kJ22 : ∀ x20 : Int, (((¬ (M 18 p3) = 1) ∧ x20 = 32) ∨ (((M 18 p3) = 1) ∧ x20 = 33)) → im_T g d 184 125 [none, none, none, none] [vI x20, .ref 7] e M K := by
      intro x20 hx23
      have hP := hJ21 x20 hx23
      refine im_callV (q := 128) (kd := 1) (y := 182) (n := 1) (ci := 10) (a := 7) (vs := [.ref 7, vI x20]) (r := []) (L2 := [some (.ref 7), some (vI x20)]) D184_125 (im_cal cn_184 cl_10_88) (Or.inl rfl) rfl sf_7 rfl rfl rfl rfl hd ⟨rfl, rfl, trivial⟩ ?_
      refine hP.mono ?_
      rintro _ e25 M24 ⟨rfl, rfl, hP⟩
      refine im_bkN ?_
      refine im_goto (q := 131) (t := 164) D184_128 rfl ?_
      exact im_vret (q := 165) D184_164 rfl hP
    refine im_icmp (q := 118) (t := 123) D184_115 rfl hr18 (by decide) (fun hc19 => ?_) (fun hc19 => ?_)
    · refine im_bipush (q := 125) D184_123 rfl ?_
      exact (kJ22 (32) (Or.inl ⟨hc19, rfl⟩)).wk trivial
    · refine im_bipush (q := 120) D184_118 rfl ?_
      refine im_goto (q := 123) (t := 125) D184_120 rfl ?_
      exact (kJ22 (33) (Or.inr ⟨(Decidable.not_not.mp hc19), rfl⟩)).wk trivial
  by_cases hc29 : p2 = 91
  · refine im_lsw (q := 2) (t := 131) D184_1 hg1 rfl (by rcases hc29 with hc29 <;> (rw [hc29]; rfl)) ?_
    replace hP := hP.2.2.2.2.1 hc29
    refine im_ld (q := 132) (i := 0) D184_131 rfl rfl rfl ?_
    refine im_bipush (q := 134) D184_132 rfl ?_
    refine im_callV (q := 137) (kd := 1) (y := 180) (n := 1) (ci := 10) (a := 7) (vs := [.ref 7, vI 91]) (r := []) (L2 := [some (.ref 7), some (vI 91)]) D184_134 (im_cal cn_184 cl_10_122) (Or.inl rfl) rfl sf_7 rfl rfl rfl rfl hd ⟨rfl, rfl, trivial⟩ ?_
    refine hP.mono ?_
    rintro _ e28 M27 ⟨rfl, rfl, hP⟩
    refine im_bkN ?_
    refine im_goto (q := 140) (t := 164) D184_137 rfl ?_
    exact im_vret (q := 165) D184_164 rfl hP
  by_cases hc32 : p2 = 107
  · refine im_lsw (q := 2) (t := 140) D184_1 hg1 rfl (by rcases hc32 with hc32 <;> (rw [hc32]; rfl)) ?_
    replace hP := hP.2.2.2.2.2.1 hc32
    refine im_ld (q := 141) (i := 0) D184_140 rfl rfl rfl ?_
    refine im_bipush (q := 143) D184_141 rfl ?_
    refine im_callV (q := 146) (kd := 1) (y := 180) (n := 1) (ci := 10) (a := 7) (vs := [.ref 7, vI 93]) (r := []) (L2 := [some (.ref 7), some (vI 93)]) D184_143 (im_cal cn_184 cl_10_122) (Or.inl rfl) rfl sf_7 rfl rfl rfl rfl hd ⟨rfl, rfl, trivial⟩ ?_
    refine hP.mono ?_
    rintro _ e31 M30 ⟨rfl, rfl, hP⟩
    refine im_bkN ?_
    refine im_goto (q := 149) (t := 164) D184_146 rfl ?_
    exact im_vret (q := 165) D184_164 rfl hP
  by_cases hc35 : p2 = 98
  · refine im_lsw (q := 2) (t := 149) D184_1 hg1 rfl (by rcases hc35 with hc35 <;> (rw [hc35]; rfl)) ?_
    replace hP := hP.2.2.2.2.2.2.1 hc35
    refine im_ld (q := 150) (i := 0) D184_149 rfl rfl rfl ?_
    refine im_ld (q := 151) (i := 1) D184_150 rfl rfl rfl ?_
    refine im_ld (q := 152) (i := 3) D184_151 rfl rfl rfl ?_
    refine im_callV (q := 155) (kd := 1) (y := 185) (n := 2) (ci := 10) (a := 7) (vs := [.ref 7, .ref 13, vI p3]) (r := []) (L2 := [some (.ref 7), some (.ref 13), some (vI p3), none, none]) D184_152 (im_cal cn_184 cl_10_130) (Or.inl rfl) rfl sf_7 rfl rfl rfl rfl hd ⟨rfl, rfl, rfl, trivial⟩ ?_
    refine hP.mono ?_
    rintro _ e34 M33 ⟨rfl, rfl, hP⟩
    refine im_bkN ?_
    refine im_goto (q := 158) (t := 164) D184_155 rfl ?_
    exact im_vret (q := 165) D184_164 rfl hP
  have hd38 : ¬ p2 = 49 ∧ ¬ p2 = 50 ∧ ¬ p2 = 51 ∧ ¬ p2 = 91 ∧ ¬ p2 = 98 ∧ ¬ p2 = 100 ∧ ¬ p2 = 107 := by clear hP; omega
  refine im_lsw (q := 2) (t := 158) D184_1 hg1 rfl (by have z9 := hd38; simp [Op.lookupswitch.offset, am_to, z9, eq_comm]) ?_
  replace hP := hP.2.2.2.2.2.2.2 hd38
  refine im_ld (q := 159) (i := 0) D184_158 rfl rfl rfl ?_
  refine im_ld (q := 160) (i := 1) D184_159 rfl rfl rfl ?_
  refine im_ld (q := 161) (i := 3) D184_160 rfl rfl rfl ?_
  refine im_callV (q := 164) (kd := 1) (y := 186) (n := 2) (ci := 10) (a := 7) (vs := [.ref 7, .ref 13, vI p3]) (r := []) (L2 := [some (.ref 7), some (.ref 13), some (vI p3)]) D184_161 (im_cal cn_184 cl_10_133) (Or.inl rfl) rfl sf_7 rfl rfl rfl rfl hd ⟨rfl, rfl, rfl, trivial⟩ ?_
  refine hP.mono ?_
  rintro _ e37 M36 ⟨rfl, rfl, hP⟩
  refine im_bkN ?_
  exact im_vret (q := 165) D184_164 rfl hP
set_option maxRecDepth 20000 in
set_option maxHeartbeats 4000000 in
theorem k_Writer_bounds_0 {g : im_g} {d : Nat} {e : im_E} {M : im_M} {K : im_K} {p2 : Int} (hP : (0 ≤ p2 ∧ p2 < 5000) ∧ im_T g d 185 10 [some (.ref 7), some (.ref 13), some (vI p2), some (vI (M 18 p2)), some (vI 0)] [] e M K) : im_T g d 185 0 [some (.ref 7), some (.ref 13), some (vI p2), none, none] [] e M K := by
  refine im_ld (q := 1) (i := 1) D185_0 rfl rfl rfl ?_
  refine im_gfR (q := 4) (b := 18) D185_1 (im_fl cn_185 fl_10_95) sf_13 rfl rfl tR_5_4 rfl ?_
  refine im_ld (q := 5) (i := 2) D185_4 rfl rfl rfl ?_
  obtain ⟨hg1, hP⟩ := hP
  refine im_rng (j := p2) sf_18 hg1.1 hg1.2 (fun hr2 => ?_)
  refine im_iald (q := 6) D185_5 sf_18 hg1.1 hg1.2 (by decide) rfl ?_
  refine im_st1 (q := 7) (i := 3) (L' := [some (.ref 7), some (.ref 13), some (vI p2), some (vI (M 18 p2)), none]) D185_6 (Or.inl ⟨_, rfl, rfl⟩) (Nat.le_of_ble_eq_true rfl) rfl ?_
  refine im_iconst (q := 8) D185_7 ?_
  refine im_st1 (q := 10) (i := 4) (L' := [some (.ref 7), some (.ref 13), some (vI p2), some (vI (M 18 p2)), some (vI 0)]) D185_8 (Or.inr rfl) (Nat.le_of_ble_eq_true rfl) rfl ?_
  exact hP.wk ⟨rfl, rfl, rfl, rfl, rfl, trivial⟩
set_option maxRecDepth 20000 in
set_option maxHeartbeats 4000000 in
theorem k_Writer_bounds_10 {g : im_g} {d : Nat} {e : im_E} {M : im_M} {K : im_K} {p2 p3 p4 : Int} (hd : 1 ≤ d) (hP : (im_i32 p4) ∧ (0 ≤ p2 ∧ p2 < 5000) ∧ (im_i64 (2 * (M 21 p2))) ∧ (((2 * (M 21 p2)) ≤ p4 → im_T g (d - 1) 180 0 [some (.ref 7), some (vI 93)] [] e M (im_r0 (fun  e_ M6 => e = e_ ∧ K (.inl none) e M6))) ∧ (p4 < (2 * (M 21 p2)) → im_T g (d - 1) 125 0 [some (.ref 13), some (vI p3), some (.ref 11), none] [] e M (im_ri (fun x9 e_ M8 => e = e_ ∧ im_T g (d - 1) 177 0 [some (.ref 7), some (.ref 11), none, none, none, none] [] e M8 (im_r0 (fun  e_ M10 => e = e_ ∧ im_T g d 185 10 [some (.ref 7), some (.ref 13), some (vI p2), some (vI x9), some (vI (p4 + 1))] [] e M10 K))))))) : im_T g d 185 10 [some (.ref 7), some (.ref 13), some (vI p2), some (vI p3), some (vI p4)] [] e M K := by
  refine im_ld (q := 12) (i := 4) D185_10 rfl rfl rfl ?_
  obtain ⟨hg1, hP⟩ := hP
  refine im_i2l (q := 13) D185_12 hg1 ?_
  refine im_ldc2 (q := 16) (n := 2) D185_13 rfl ?_
  refine im_ld (q := 17) (i := 1) D185_16 rfl rfl rfl ?_
  refine im_gfR (q := 20) (b := 21) D185_17 (im_fl cn_185 fl_10_127) sf_13 rfl rfl tR_5_7 rfl ?_
  refine im_ld (q := 21) (i := 2) D185_20 rfl rfl rfl ?_
  obtain ⟨hg2, hP⟩ := hP
  refine im_rng (j := p2) sf_21 hg2.1 hg2.2 (fun hr3 => ?_)
  refine im_lald (q := 22) D185_21 sf_21 hg2.1 hg2.2 (by decide) rfl ?_
  refine im_lmul (q := 23) D185_22 ?_
  obtain ⟨hg4, hP⟩ := hP
  refine im_lif (q := 24) (q2 := 27) (t := 51) D185_23 D185_24 rfl (im_32_64 hg1) hg4 (fun hc5 => ?_) (fun hc5 => ?_)
  · replace hP := hP.1 hc5
    refine im_ld (q := 52) (i := 0) D185_51 rfl rfl rfl ?_
    refine im_bipush (q := 54) D185_52 rfl ?_
    refine im_callV (q := 57) (kd := 1) (y := 180) (n := 1) (ci := 10) (a := 7) (vs := [.ref 7, vI 93]) (r := []) (L2 := [some (.ref 7), some (vI 93)]) D185_54 (im_cal cn_185 cl_10_122) (Or.inl rfl) rfl sf_7 rfl rfl rfl rfl hd ⟨rfl, rfl, trivial⟩ ?_
    refine hP.mono ?_
    rintro _ e7 M6 ⟨rfl, rfl, hP⟩
    refine im_bkN ?_
    exact im_vret (q := 58) D185_57 rfl hP
  · replace hP := hP.2 (Int.not_le.mp hc5)
    refine im_ld (q := 28) (i := 1) D185_27 rfl rfl rfl ?_
    refine im_ld (q := 29) (i := 3) D185_28 rfl rfl rfl ?_
    refine im_ld (q := 30) (i := 0) D185_29 rfl rfl rfl ?_
    refine im_gfR (q := 33) (b := 11) D185_30 (im_fl cn_185 fl_10_25) sf_7 rfl rfl tR_10_6 rfl ?_
    refine im_callV (q := 36) (kd := 1) (y := 125) (n := 2) (ci := 5) (a := 13) (vs := [.ref 13, vI p3, .ref 11]) (r := []) (L2 := [some (.ref 13), some (vI p3), some (.ref 11), none]) D185_33 (im_cal cn_185 cl_10_98) (Or.inl rfl) rfl sf_13 rfl rfl rfl rfl hd ⟨rfl, rfl, rfl, trivial⟩ ?_
    refine hP.mono ?_
    rintro _ e12 M8 ⟨x9, rfl, rfl, hP⟩
    refine im_bkS ?_
    refine im_st1 (q := 37) (i := 3) (L' := [some (.ref 7), some (.ref 13), some (vI p2), some (vI x9), some (vI p4)]) D185_36 (Or.inl ⟨_, rfl, rfl⟩) (Nat.le_of_ble_eq_true rfl) rfl ?_
    refine im_ld (q := 38) (i := 0) D185_37 rfl rfl rfl ?_
    refine im_ld (q := 39) (i := 0) D185_38 rfl rfl rfl ?_
    refine im_gfR (q := 42) (b := 11) D185_39 (im_fl cn_185 fl_10_25) sf_7 rfl rfl tR_10_6 rfl ?_
    refine im_callV (q := 45) (kd := 1) (y := 177) (n := 1) (ci := 10) (a := 7) (vs := [.ref 7, .ref 11]) (r := []) (L2 := [some (.ref 7), some (.ref 11), none, none, none, none]) D185_42 (im_cal cn_185 cl_10_64) (Or.inl rfl) rfl sf_7 rfl rfl rfl rfl hd ⟨rfl, rfl, trivial⟩ ?_
    refine hP.mono ?_
    rintro _ e11 M10 ⟨rfl, rfl, hP⟩
    refine im_bkN ?_
    refine im_iinc (q := 48) (i := 4) (L' := [some (.ref 7), some (.ref 13), some (vI p2), some (vI x9), some (vI (p4 + 1))]) D185_45 rfl (Nat.le_of_ble_eq_true rfl) rfl ?_
    refine im_goto (q := 51) (t := 10) D185_48 rfl ?_
    exact hP.wk ⟨rfl, rfl, rfl, rfl, rfl, trivial⟩
set_option maxRecDepth 20000 in
set_option maxHeartbeats 4000000 in
theorem k_Writer_whenTime_0 {g : im_g} {d : Nat} {e : im_E} {M : im_M} {K : im_K} {p2 : Int} (hd : 1 ≤ d) (hP : (0 ≤ p2 ∧ p2 < 5000) ∧ (((M 20 p2) = 0 → im_T g (d - 1) 187 0 [some (.ref 7), some (vL (M 19 p2)), none] [] e M (im_r0 (fun  e_ M6 => e = e_ ∧ K (.inl none) e M6))) ∧ (¬ (M 20 p2) = 0 → im_T g (d - 1) 179 0 [some (.ref 7), some (vL (M 20 p2)), none] [] e M (im_r0 (fun  e_ M8 => e = e_ ∧ K (.inl none) e M8))))) : im_T g d 186 0 [some (.ref 7), some (.ref 13), some (vI p2)] [] e M K := by
  refine im_ld (q := 1) (i := 1) D186_0 rfl rfl rfl ?_
  refine im_gfR (q := 4) (b := 20) D186_1 (im_fl cn_186 fl_10_124) sf_13 rfl rfl tR_5_6 rfl ?_
  refine im_ld (q := 5) (i := 2) D186_4 rfl rfl rfl ?_
  obtain ⟨hg1, hP⟩ := hP
  refine im_rng (j := p2) sf_20 hg1.1 hg1.2 (fun hr2 => ?_)
  refine im_lald (q := 6) D186_5 sf_20 hg1.1 hg1.2 (by decide) rfl ?_
  refine im_lconst (q := 7) (z := 0) D186_6 rfl ?_
  refine im_lif (q := 8) (q2 := 11) (t := 24) D186_7 D186_8 rfl hr2 (by decide) (fun hc3 => ?_) (fun hc3 => ?_)
  · replace hP := hP.1 hc3
    refine im_ld (q := 25) (i := 0) D186_24 rfl rfl rfl ?_
    refine im_ld (q := 26) (i := 1) D186_25 rfl rfl rfl ?_
    refine im_gfR (q := 29) (b := 19) D186_26 (im_fl cn_186 fl_10_102) sf_13 rfl rfl tR_5_5 rfl ?_
    refine im_ld (q := 30) (i := 2) D186_29 rfl rfl rfl ?_
    refine im_rng (j := p2) sf_19 hg1.1 hg1.2 (fun hr4 => ?_)
    refine im_lald (q := 31) D186_30 sf_19 hg1.1 hg1.2 (by decide) rfl ?_
    refine im_callV (q := 34) (kd := 1) (y := 187) (n := 1) (ci := 10) (a := 7) (vs := [.ref 7, vL (M 19 p2)]) (r := []) (L2 := [some (.ref 7), some (vL (M 19 p2)), none]) D186_31 (im_cal cn_186 cl_10_138) (Or.inl rfl) rfl sf_7 rfl rfl rfl rfl hd ⟨rfl, rfl, trivial⟩ ?_
    refine hP.mono ?_
    rintro _ e7 M6 ⟨rfl, rfl, hP⟩
    refine im_bkN ?_
    exact im_vret (q := 35) D186_34 rfl hP
  · replace hP := hP.2 hc3
    refine im_ld (q := 12) (i := 0) D186_11 rfl rfl rfl ?_
    refine im_ld (q := 13) (i := 1) D186_12 rfl rfl rfl ?_
    refine im_gfR (q := 16) (b := 20) D186_13 (im_fl cn_186 fl_10_124) sf_13 rfl rfl tR_5_6 rfl ?_
    refine im_ld (q := 17) (i := 2) D186_16 rfl rfl rfl ?_
    refine im_lald (q := 18) D186_17 sf_20 hg1.1 hg1.2 (by decide) rfl ?_
    refine im_callV (q := 21) (kd := 1) (y := 179) (n := 1) (ci := 10) (a := 7) (vs := [.ref 7, vL (M 20 p2)]) (r := []) (L2 := [some (.ref 7), some (vL (M 20 p2)), none]) D186_18 (im_cal cn_186 cl_10_105) (Or.inl rfl) rfl sf_7 rfl rfl rfl rfl hd ⟨rfl, rfl, trivial⟩ ?_
    refine hP.mono ?_
    rintro _ e9 M8 ⟨rfl, rfl, hP⟩
    refine im_bkN ?_
    refine im_goto (q := 24) (t := 34) D186_21 rfl ?_
    exact im_vret (q := 35) D186_34 rfl hP
set_option maxRecDepth 20000 in
set_option maxHeartbeats 4000000 in
theorem k_Writer_time_0 {g : im_g} {d : Nat} {e : im_E} {M : im_M} {K : im_K} {p1 : Int} (hd : 1 ≤ d) (hP : im_T g (d - 1) 127 0 [some (.ref 11), some (vL p1), none, none, none] [] e M (im_r0 (fun  e_ M1 => e = e_ ∧ im_T g (d - 1) 177 0 [some (.ref 7), some (.ref 11), none, none, none, none] [] e M1 (im_r0 (fun  e_ M2 => e = e_ ∧ K (.inl none) e M2))))) : im_T g d 187 0 [some (.ref 7), some (vL p1), none] [] e M K := by
  refine im_ld (q := 1) (i := 0) D187_0 rfl rfl rfl ?_
  refine im_gfR (q := 4) (b := 11) D187_1 (im_fl cn_187 fl_10_25) sf_7 rfl rfl tR_10_6 rfl ?_
  refine im_ld (q := 5) (i := 1) D187_4 rfl rfl rfl ?_
  refine im_callV (q := 8) (kd := 1) (y := 127) (n := 1) (ci := 3) (a := 11) (vs := [.ref 11, vL p1]) (r := []) (L2 := [some (.ref 11), some (vL p1), none, none, none]) D187_5 (im_cal cn_187 cl_10_61) (Or.inl rfl) rfl sf_11 rfl rfl rfl rfl hd ⟨rfl, rfl, trivial⟩ ?_
  refine hP.mono ?_
  rintro _ e4 M1 ⟨rfl, rfl, hP⟩
  refine im_bkN ?_
  refine im_ld (q := 9) (i := 0) D187_8 rfl rfl rfl ?_
  refine im_ld (q := 10) (i := 0) D187_9 rfl rfl rfl ?_
  refine im_gfR (q := 13) (b := 11) D187_10 (im_fl cn_187 fl_10_25) sf_7 rfl rfl tR_10_6 rfl ?_
  refine im_callV (q := 16) (kd := 1) (y := 177) (n := 1) (ci := 10) (a := 7) (vs := [.ref 7, .ref 11]) (r := []) (L2 := [some (.ref 7), some (.ref 11), none, none, none, none]) D187_13 (im_cal cn_187 cl_10_64) (Or.inl rfl) rfl sf_7 rfl rfl rfl rfl hd ⟨rfl, rfl, trivial⟩ ?_
  refine hP.mono ?_
  rintro _ e3 M2 ⟨rfl, rfl, hP⟩
  refine im_bkN ?_
  exact im_vret (q := 17) D187_16 rfl hP
set_option maxRecDepth 20000 in
set_option maxHeartbeats 4000000 in
theorem k_P_about_0 {g : im_g} {d : Nat} {e : im_E} {M : im_M} {K : im_K} {p1 p2 : Int} (hd : 1 ≤ d) (hP : im_T g (d - 1) 152 0 [some (.ref 0)] [] e M (im_rx (im_r0 (fun  e_ M1 => e = e_ ∧ im_T g (d - 1) 169 0 [some (vI p1), some (vI 16)] [] e M1 (im_rx (im_r0 (fun  e_ M2 => e = e_ ∧ (im_i32 p2) ∧ ((((0 ≤ p2 → ((p2 ≤ 4 → im_T g (d - 1) 168 0 [some (vI 1)] [] e M2 (im_rx (im_r0 (fun  e_ M49 => e = e_ ∧ (0 ≤ p1 ∧ p1 < 16) ∧ ((∀ x53 : Int, ((((M49 28 p1) = (-1)) ∧ x53 = 0) ∨ ((¬ (M49 28 p1) = (-1)) ∧ x53 = 1)) → im_T g (d - 1) 167 0 [some (vI x53)] [] e M49 (im_rx (im_r0 (fun  e_ M57 => e = e_ ∧ ((p2 = 0 → im_T g (d - 1) 190 0 [some (.ref 13), some (vI (M57 28 p1)), none, none, none] [] e M57 (im_rl (fun x60 e_ M59 => e = e_ ∧ K (.inl (some (vL x60))) e M59))) ∧ (p2 = 1 → (0 ≤ (M57 28 p1) ∧ (M57 28 p1) < 5000) ∧ (im_i32 ((M57 15 (M57 28 p1)) - (M57 28 p1))) ∧ K (.inl (some (vL ((M57 15 (M57 28 p1)) - (M57 28 p1))))) e M57) ∧ (p2 = 2 → im_T g (d - 1) 191 0 [some (.ref 13), some (vI (M57 28 p1)), none, none, none, none, none, none] [] e M57 (im_ri (fun x71 e_ M70 => e = e_ ∧ (im_i32 x71) ∧ K (.inl (some (vL x71))) e M70))) ∧ (p2 = 3 → im_T g (d - 1) 192 0 [some (.ref 13), some (vI (M57 28 p1)), none, none] [] e M57 (im_ri (fun x77 e_ M76 => e = e_ ∧ (im_i32 x77) ∧ K (.inl (some (vL x77))) e M76))) ∧ (p2 < 0 ∨ 3 < p2 → im_T g (d - 1) 193 0 [some (.ref 13), some (vI (M57 28 p1)), none, none, none, none] [] e M57 (im_ri (fun x83 e_ M82 => e = e_ ∧ (im_i32 x83) ∧ K (.inl (some (vL x83))) e M82)))))) (fun E_ e_ M_ => K (.inr E_) e_ M_)))))) (fun E_ e_ M_ => K (.inr E_) e_ M_))))))) ∧ ((((p2 < 0)) ∨ ((0 ≤ p2) ∧ (4 < p2))) → im_T g (d - 1) 168 0 [some (vI 0)] [] e M2 (im_rx (im_r0 (fun  e_ M9 => e = e_ ∧ (0 ≤ p1 ∧ p1 < 16) ∧ ((∀ x13 : Int, ((((M9 28 p1) = (-1)) ∧ x13 = 0) ∨ ((¬ (M9 28 p1) = (-1)) ∧ x13 = 1)) → im_T g (d - 1) 167 0 [some (vI x13)] [] e M9 (im_rx (im_r0 (fun  e_ M17 => e = e_ ∧ ((p2 = 0 → im_T g (d - 1) 190 0 [some (.ref 13), some (vI (M17 28 p1)), none, none, none] [] e M17 (im_rl (fun x20 e_ M19 => e = e_ ∧ K (.inl (some (vL x20))) e M19))) ∧ (p2 = 1 → (0 ≤ (M17 28 p1) ∧ (M17 28 p1) < 5000) ∧ (im_i32 ((M17 15 (M17 28 p1)) - (M17 28 p1))) ∧ K (.inl (some (vL ((M17 15 (M17 28 p1)) - (M17 28 p1))))) e M17) ∧ (p2 = 2 → im_T g (d - 1) 191 0 [some (.ref 13), some (vI (M17 28 p1)), none, none, none, none, none, none] [] e M17 (im_ri (fun x31 e_ M30 => e = e_ ∧ (im_i32 x31) ∧ K (.inl (some (vL x31))) e M30))) ∧ (p2 = 3 → im_T g (d - 1) 192 0 [some (.ref 13), some (vI (M17 28 p1)), none, none] [] e M17 (im_ri (fun x37 e_ M36 => e = e_ ∧ (im_i32 x37) ∧ K (.inl (some (vL x37))) e M36))) ∧ (p2 < 0 ∨ 3 < p2 → im_T g (d - 1) 193 0 [some (.ref 13), some (vI (M17 28 p1)), none, none, none, none] [] e M17 (im_ri (fun x43 e_ M42 => e = e_ ∧ (im_i32 x43) ∧ K (.inl (some (vL x43))) e M42)))))) (fun E_ e_ M_ => K (.inr E_) e_ M_)))))) (fun E_ e_ M_ => K (.inr E_) e_ M_)))))) (fun E_ e_ M_ => K (.inr E_) e_ M_)))) (fun E_ e_ M_ => K (.inr E_) e_ M_))) : im_T g d 189 0 [some (.ref 0), some (vI p1), some (vI p2)] [] e M K := by
  refine im_ld (q := 1) (i := 0) D189_0 rfl rfl rfl ?_
  refine im_callV (q := 4) (kd := 1) (y := 152) (n := 0) (ci := 11) (a := 0) (vs := [.ref 0]) (r := []) (L2 := [some (.ref 0)]) D189_1 (im_cal cn_189 cl_11_124) (Or.inl rfl) rfl sf_0 rfl rfl rfl rfl hd ⟨rfl, trivial⟩ ?_
  refine hP.mono ?_
  rintro _ e90 M1 (⟨rfl, rfl, hP⟩ | ⟨E_, rfl, hX⟩)
  · refine im_bkN ?_
    refine im_ld (q := 5) (i := 1) D189_4 rfl rfl rfl ?_
    refine im_bipush (q := 7) D189_5 rfl ?_
    refine im_callS (q := 10) (kd := 0) (y := 169) (n := 2) (z := 11) (vs := [vI p1, vI 16]) (r := []) (L2 := [some (vI p1), some (vI 16)]) D189_7 rfl (im_cal cn_189 cl_11_183) (Or.inl rfl) rfl rfl rfl rfl rfl hd ⟨rfl, rfl, trivial⟩ ?_
    refine hP.mono ?_
    rintro _ e89 M2 (⟨rfl, rfl, hP⟩ | ⟨E_, rfl, hX⟩)
    · refine im_bkN ?_
      refine im_ld (q := 11) (i := 2) D189_10 rfl rfl rfl ?_
      obtain ⟨hg3, hP⟩ := hP
      obtain ⟨hP, hJ6⟩ := hP
      have kJ7 : (((p2 < 0)) ∨ ((0 ≤ p2) ∧ (4 < p2))) → im_T g d 189 23 [some (.ref 0), some (vI p1), some (vI p2)] [] e M2 K := by
        intro  hx8
        have hP := hJ6  hx8
        refine im_iconst (q := 24) D189_23 ?_
        refine im_callS (q := 27) (kd := 0) (y := 168) (n := 1) (z := 11) (vs := [vI 0]) (r := []) (L2 := [some (vI 0)]) D189_24 rfl (im_cal cn_189 cl_11_195) (Or.inl rfl) rfl rfl rfl rfl rfl hd ⟨rfl, trivial⟩ ?_
        refine hP.mono ?_
        rintro _ e48 M9 (⟨rfl, rfl, hP⟩ | ⟨E_, rfl, hX⟩)
        · refine im_bkN ?_
          refine im_ld (q := 28) (i := 0) D189_27 rfl rfl rfl ?_
          refine im_gfR (q := 31) (b := 28) D189_28 (im_fl cn_189 fl_11_49) sf_0 rfl rfl tR_11_6 rfl ?_
          refine im_ld (q := 32) (i := 1) D189_31 rfl rfl rfl ?_
          obtain ⟨hg10, hP⟩ := hP
          refine im_rng (j := p1) sf_28 hg10.1 hg10.2 (fun hr11 => ?_)
          refine im_iald (q := 33) D189_32 sf_28 hg10.1 hg10.2 (by decide) rfl ?_
          refine im_iconst (q := 34) D189_33 ?_
          have hJ14 := hP
          have kJ15 : ∀ x13 : Int, ((((M9 28 p1) = (-1)) ∧ x13 = 0) ∨ ((¬ (M9 28 p1) = (-1)) ∧ x13 = 1)) → im_T g d 189 42 [some (.ref 0), some (vI p1), some (vI p2)] [vI x13] e M9 K := by
            intro x13 hx16
            have hP := hJ14 x13 hx16
            refine im_callS (q := 45) (kd := 0) (y := 167) (n := 1) (z := 11) (vs := [vI x13]) (r := []) (L2 := [some (vI x13)]) D189_42 rfl (im_cal cn_189 cl_11_187) (Or.inl rfl) rfl rfl rfl rfl rfl hd ⟨rfl, trivial⟩ ?_
            refine hP.mono ?_
            rintro _ e47 M17 (⟨rfl, rfl, hP⟩ | ⟨E_, rfl, hX⟩)
            · refine im_bkN ?_
              refine im_ld (q := 46) (i := 2) D189_45 rfl rfl rfl ?_
              by_cases hc22 : p2 = 0
              · refine im_tsw (q := 47) (t := 76) D189_46 hg3 (fun _ => by rcases hc22 with hc22 <;> (rw [hc22]; rfl)) (by rcases hc22 with hc22 <;> (rw [hc22]; rfl)) ?_
                replace hP := hP.1 hc22
                refine im_ld (q := 77) (i := 0) D189_76 rfl rfl rfl ?_
                refine im_gfR (q := 80) (b := 13) D189_77 (im_fl cn_189 fl_11_36) sf_0 rfl rfl tR_11_4 rfl ?_
                refine im_ld (q := 81) (i := 0) D189_80 rfl rfl rfl ?_
                refine im_gfR (q := 84) (b := 28) D189_81 (im_fl cn_189 fl_11_49) sf_0 rfl rfl tR_11_6 rfl ?_
                refine im_ld (q := 85) (i := 1) D189_84 rfl rfl rfl ?_
                refine im_rng (j := p1) sf_28 hg10.1 hg10.2 (fun hr18 => ?_)
                refine im_iald (q := 86) D189_85 sf_28 hg10.1 hg10.2 (by decide) rfl ?_
                refine im_callV (q := 89) (kd := 1) (y := 190) (n := 1) (ci := 5) (a := 13) (vs := [.ref 13, vI (M17 28 p1)]) (r := []) (L2 := [some (.ref 13), some (vI (M17 28 p1)), none, none, none]) D189_86 (im_cal cn_189 cl_11_198) (Or.inl rfl) rfl sf_13 rfl rfl rfl rfl hd ⟨rfl, rfl, trivial⟩ ?_
                refine hP.mono ?_
                rintro _ e21 M19 ⟨x20, rfl, rfl, hP⟩
                refine im_bkS ?_
                exact im_lret (q := 90) D189_89 rfl hP
              by_cases hc28 : p2 = 1
              · refine im_tsw (q := 47) (t := 90) D189_46 hg3 (fun _ => by rcases hc28 with hc28 <;> (rw [hc28]; rfl)) (by rcases hc28 with hc28 <;> (rw [hc28]; rfl)) ?_
                replace hP := hP.2.1 hc28
                refine im_ld (q := 91) (i := 0) D189_90 rfl rfl rfl ?_
                refine im_gfR (q := 94) (b := 13) D189_91 (im_fl cn_189 fl_11_36) sf_0 rfl rfl tR_11_4 rfl ?_
                refine im_gfR (q := 97) (b := 15) D189_94 (im_fl cn_189 fl_11_202) sf_13 rfl rfl tR_5_1 rfl ?_
                refine im_ld (q := 98) (i := 0) D189_97 rfl rfl rfl ?_
                refine im_gfR (q := 101) (b := 28) D189_98 (im_fl cn_189 fl_11_49) sf_0 rfl rfl tR_11_6 rfl ?_
                refine im_ld (q := 102) (i := 1) D189_101 rfl rfl rfl ?_
                refine im_rng (j := p1) sf_28 hg10.1 hg10.2 (fun hr23 => ?_)
                refine im_iald (q := 103) D189_102 sf_28 hg10.1 hg10.2 (by decide) rfl ?_
                obtain ⟨hg24, hP⟩ := hP
                refine im_rng (j := (M17 28 p1)) sf_15 hg24.1 hg24.2 (fun hr25 => ?_)
                refine im_iald (q := 104) D189_103 sf_15 hg24.1 hg24.2 (by decide) rfl ?_
                refine im_ld (q := 105) (i := 0) D189_104 rfl rfl rfl ?_
                refine im_gfR (q := 108) (b := 28) D189_105 (im_fl cn_189 fl_11_49) sf_0 rfl rfl tR_11_6 rfl ?_
                refine im_ld (q := 109) (i := 1) D189_108 rfl rfl rfl ?_
                refine im_iald (q := 110) D189_109 sf_28 hg10.1 hg10.2 (by decide) rfl ?_
                refine im_isub (q := 111) D189_110 ?_
                obtain ⟨hg27, hP⟩ := hP
                refine im_i2l (q := 112) D189_111 hg27 ?_
                exact im_lret (q := 113) D189_112 rfl hP
              by_cases hc34 : p2 = 2
              · refine im_tsw (q := 47) (t := 113) D189_46 hg3 (fun _ => by rcases hc34 with hc34 <;> (rw [hc34]; rfl)) (by rcases hc34 with hc34 <;> (rw [hc34]; rfl)) ?_
                replace hP := hP.2.2.1 hc34
                refine im_ld (q := 114) (i := 0) D189_113 rfl rfl rfl ?_
                refine im_gfR (q := 117) (b := 13) D189_114 (im_fl cn_189 fl_11_36) sf_0 rfl rfl tR_11_4 rfl ?_
                refine im_ld (q := 118) (i := 0) D189_117 rfl rfl rfl ?_
                refine im_gfR (q := 121) (b := 28) D189_118 (im_fl cn_189 fl_11_49) sf_0 rfl rfl tR_11_6 rfl ?_
                refine im_ld (q := 122) (i := 1) D189_121 rfl rfl rfl ?_
                refine im_rng (j := p1) sf_28 hg10.1 hg10.2 (fun hr29 => ?_)
                refine im_iald (q := 123) D189_122 sf_28 hg10.1 hg10.2 (by decide) rfl ?_
                refine im_callV (q := 126) (kd := 1) (y := 191) (n := 1) (ci := 5) (a := 13) (vs := [.ref 13, vI (M17 28 p1)]) (r := []) (L2 := [some (.ref 13), some (vI (M17 28 p1)), none, none, none, none, none, none]) D189_123 (im_cal cn_189 cl_11_205) (Or.inl rfl) rfl sf_13 rfl rfl rfl rfl hd ⟨rfl, rfl, trivial⟩ ?_
                refine hP.mono ?_
                rintro _ e33 M30 ⟨x31, rfl, rfl, hP⟩
                refine im_bkS ?_
                obtain ⟨hg32, hP⟩ := hP
                refine im_i2l (q := 127) D189_126 hg32 ?_
                exact im_lret (q := 128) D189_127 rfl hP
              by_cases hc40 : p2 = 3
              · refine im_tsw (q := 47) (t := 128) D189_46 hg3 (fun _ => by rcases hc40 with hc40 <;> (rw [hc40]; rfl)) (by rcases hc40 with hc40 <;> (rw [hc40]; rfl)) ?_
                replace hP := hP.2.2.2.1 hc40
                refine im_ld (q := 129) (i := 0) D189_128 rfl rfl rfl ?_
                refine im_gfR (q := 132) (b := 13) D189_129 (im_fl cn_189 fl_11_36) sf_0 rfl rfl tR_11_4 rfl ?_
                refine im_ld (q := 133) (i := 0) D189_132 rfl rfl rfl ?_
                refine im_gfR (q := 136) (b := 28) D189_133 (im_fl cn_189 fl_11_49) sf_0 rfl rfl tR_11_6 rfl ?_
                refine im_ld (q := 137) (i := 1) D189_136 rfl rfl rfl ?_
                refine im_rng (j := p1) sf_28 hg10.1 hg10.2 (fun hr35 => ?_)
                refine im_iald (q := 138) D189_137 sf_28 hg10.1 hg10.2 (by decide) rfl ?_
                refine im_callV (q := 141) (kd := 1) (y := 192) (n := 1) (ci := 5) (a := 13) (vs := [.ref 13, vI (M17 28 p1)]) (r := []) (L2 := [some (.ref 13), some (vI (M17 28 p1)), none, none]) D189_138 (im_cal cn_189 cl_11_208) (Or.inl rfl) rfl sf_13 rfl rfl rfl rfl hd ⟨rfl, rfl, trivial⟩ ?_
                refine hP.mono ?_
                rintro _ e39 M36 ⟨x37, rfl, rfl, hP⟩
                refine im_bkS ?_
                obtain ⟨hg38, hP⟩ := hP
                refine im_i2l (q := 142) D189_141 hg38 ?_
                exact im_lret (q := 143) D189_142 rfl hP
              have hd46 : p2 < 0 ∨ 3 < p2 := by clear hP; omega
              refine im_tsw (q := 47) (t := 143) D189_46 hg3 (fun z9 => absurd hd46 z9) (by rw [if_pos hd46]; rfl) ?_
              replace hP := hP.2.2.2.2 hd46
              refine im_ld (q := 144) (i := 0) D189_143 rfl rfl rfl ?_
              refine im_gfR (q := 147) (b := 13) D189_144 (im_fl cn_189 fl_11_36) sf_0 rfl rfl tR_11_4 rfl ?_
              refine im_ld (q := 148) (i := 0) D189_147 rfl rfl rfl ?_
              refine im_gfR (q := 151) (b := 28) D189_148 (im_fl cn_189 fl_11_49) sf_0 rfl rfl tR_11_6 rfl ?_
              refine im_ld (q := 152) (i := 1) D189_151 rfl rfl rfl ?_
              refine im_rng (j := p1) sf_28 hg10.1 hg10.2 (fun hr41 => ?_)
              refine im_iald (q := 153) D189_152 sf_28 hg10.1 hg10.2 (by decide) rfl ?_
              refine im_callV (q := 156) (kd := 1) (y := 193) (n := 1) (ci := 5) (a := 13) (vs := [.ref 13, vI (M17 28 p1)]) (r := []) (L2 := [some (.ref 13), some (vI (M17 28 p1)), none, none, none, none]) D189_153 (im_cal cn_189 cl_11_211) (Or.inl rfl) rfl sf_13 rfl rfl rfl rfl hd ⟨rfl, rfl, trivial⟩ ?_
              refine hP.mono ?_
              rintro _ e45 M42 ⟨x43, rfl, rfl, hP⟩
              refine im_bkS ?_
              obtain ⟨hg44, hP⟩ := hP
              refine im_i2l (q := 157) D189_156 hg44 ?_
              exact im_lret (q := 158) D189_157 rfl hP
            · exact im_bkE rfl hX
          refine im_icmp (q := 37) (t := 41) D189_34 rfl hr11 (by decide) (fun hc12 => ?_) (fun hc12 => ?_)
          · refine im_iconst (q := 42) D189_41 ?_
            exact (kJ15 (0) (Or.inl ⟨hc12, rfl⟩)).wk ⟨rfl, rfl, rfl, trivial⟩
          · refine im_iconst (q := 38) D189_37 ?_
            refine im_goto (q := 41) (t := 42) D189_38 rfl ?_
            exact (kJ15 (1) (Or.inr ⟨hc12, rfl⟩)).wk ⟨rfl, rfl, rfl, trivial⟩
        · exact im_bkE rfl hX
      refine im_ifc (q := 14) (t := 23) D189_11 rfl hg3 (fun hc4 => ?_) (fun hc4 => ?_)
      · exact (kJ7  (Or.inl hc4)).wk ⟨rfl, rfl, rfl, trivial⟩
      · replace hP := hP (Int.not_lt.mp hc4)
        refine im_ld (q := 15) (i := 2) D189_14 rfl rfl rfl ?_
        refine im_iconst (q := 16) D189_15 ?_
        refine im_icmp (q := 19) (t := 23) D189_16 rfl hg3 (by decide) (fun hc5 => ?_) (fun hc5 => ?_)
        · exact (kJ7  (Or.inr ⟨(Int.not_lt.mp hc4), hc5⟩)).wk ⟨rfl, rfl, rfl, trivial⟩
        · replace hP := hP (Int.not_lt.mp hc5)
          refine im_iconst (q := 20) D189_19 ?_
          refine im_goto (q := 23) (t := 24) D189_20 rfl ?_
          refine im_callS (q := 27) (kd := 0) (y := 168) (n := 1) (z := 11) (vs := [vI 1]) (r := []) (L2 := [some (vI 1)]) D189_24 rfl (im_cal cn_189 cl_11_195) (Or.inl rfl) rfl rfl rfl rfl rfl hd ⟨rfl, trivial⟩ ?_
          refine hP.mono ?_
          rintro _ e88 M49 (⟨rfl, rfl, hP⟩ | ⟨E_, rfl, hX⟩)
          · refine im_bkN ?_
            refine im_ld (q := 28) (i := 0) D189_27 rfl rfl rfl ?_
            refine im_gfR (q := 31) (b := 28) D189_28 (im_fl cn_189 fl_11_49) sf_0 rfl rfl tR_11_6 rfl ?_
            refine im_ld (q := 32) (i := 1) D189_31 rfl rfl rfl ?_
            obtain ⟨hg50, hP⟩ := hP
            refine im_rng (j := p1) sf_28 hg50.1 hg50.2 (fun hr51 => ?_)
            refine im_iald (q := 33) D189_32 sf_28 hg50.1 hg50.2 (by decide) rfl ?_
            refine im_iconst (q := 34) D189_33 ?_
            have hJ54 := hP
            have kJ55 : ∀ x53 : Int, ((((M49 28 p1) = (-1)) ∧ x53 = 0) ∨ ((¬ (M49 28 p1) = (-1)) ∧ x53 = 1)) → im_T g d 189 42 [some (.ref 0), some (vI p1), some (vI p2)] [vI x53] e M49 K := by
              intro x53 hx56
              have hP := hJ54 x53 hx56
              refine im_callS (q := 45) (kd := 0) (y := 167) (n := 1) (z := 11) (vs := [vI x53]) (r := []) (L2 := [some (vI x53)]) D189_42 rfl (im_cal cn_189 cl_11_187) (Or.inl rfl) rfl rfl rfl rfl rfl hd ⟨rfl, trivial⟩ ?_
              refine hP.mono ?_
              rintro _ e87 M57 (⟨rfl, rfl, hP⟩ | ⟨E_, rfl, hX⟩)
              · refine im_bkN ?_
                refine im_ld (q := 46) (i := 2) D189_45 rfl rfl rfl ?_
                by_cases hc62 : p2 = 0
                · refine im_tsw (q := 47) (t := 76) D189_46 hg3 (fun _ => by rcases hc62 with hc62 <;> (rw [hc62]; rfl)) (by rcases hc62 with hc62 <;> (rw [hc62]; rfl)) ?_
                  replace hP := hP.1 hc62
                  refine im_ld (q := 77) (i := 0) D189_76 rfl rfl rfl ?_
                  refine im_gfR (q := 80) (b := 13) D189_77 (im_fl cn_189 fl_11_36) sf_0 rfl rfl tR_11_4 rfl ?_
                  refine im_ld (q := 81) (i := 0) D189_80 rfl rfl rfl ?_
                  refine im_gfR (q := 84) (b := 28) D189_81 (im_fl cn_189 fl_11_49) sf_0 rfl rfl tR_11_6 rfl ?_
                  refine im_ld (q := 85) (i := 1) D189_84 rfl rfl rfl ?_
                  refine im_rng (j := p1) sf_28 hg50.1 hg50.2 (fun hr58 => ?_)
                  refine im_iald (q := 86) D189_85 sf_28 hg50.1 hg50.2 (by decide) rfl ?_
                  refine im_callV (q := 89) (kd := 1) (y := 190) (n := 1) (ci := 5) (a := 13) (vs := [.ref 13, vI (M57 28 p1)]) (r := []) (L2 := [some (.ref 13), some (vI (M57 28 p1)), none, none, none]) D189_86 (im_cal cn_189 cl_11_198) (Or.inl rfl) rfl sf_13 rfl rfl rfl rfl hd ⟨rfl, rfl, trivial⟩ ?_
                  refine hP.mono ?_
                  rintro _ e61 M59 ⟨x60, rfl, rfl, hP⟩
                  refine im_bkS ?_
                  exact im_lret (q := 90) D189_89 rfl hP
                by_cases hc68 : p2 = 1
                · refine im_tsw (q := 47) (t := 90) D189_46 hg3 (fun _ => by rcases hc68 with hc68 <;> (rw [hc68]; rfl)) (by rcases hc68 with hc68 <;> (rw [hc68]; rfl)) ?_
                  replace hP := hP.2.1 hc68
                  refine im_ld (q := 91) (i := 0) D189_90 rfl rfl rfl ?_
                  refine im_gfR (q := 94) (b := 13) D189_91 (im_fl cn_189 fl_11_36) sf_0 rfl rfl tR_11_4 rfl ?_
                  refine im_gfR (q := 97) (b := 15) D189_94 (im_fl cn_189 fl_11_202) sf_13 rfl rfl tR_5_1 rfl ?_
                  refine im_ld (q := 98) (i := 0) D189_97 rfl rfl rfl ?_
                  refine im_gfR (q := 101) (b := 28) D189_98 (im_fl cn_189 fl_11_49) sf_0 rfl rfl tR_11_6 rfl ?_
                  refine im_ld (q := 102) (i := 1) D189_101 rfl rfl rfl ?_
                  refine im_rng (j := p1) sf_28 hg50.1 hg50.2 (fun hr63 => ?_)
                  refine im_iald (q := 103) D189_102 sf_28 hg50.1 hg50.2 (by decide) rfl ?_
                  obtain ⟨hg64, hP⟩ := hP
                  refine im_rng (j := (M57 28 p1)) sf_15 hg64.1 hg64.2 (fun hr65 => ?_)
                  refine im_iald (q := 104) D189_103 sf_15 hg64.1 hg64.2 (by decide) rfl ?_
                  refine im_ld (q := 105) (i := 0) D189_104 rfl rfl rfl ?_
                  refine im_gfR (q := 108) (b := 28) D189_105 (im_fl cn_189 fl_11_49) sf_0 rfl rfl tR_11_6 rfl ?_
                  refine im_ld (q := 109) (i := 1) D189_108 rfl rfl rfl ?_
                  refine im_iald (q := 110) D189_109 sf_28 hg50.1 hg50.2 (by decide) rfl ?_
                  refine im_isub (q := 111) D189_110 ?_
                  obtain ⟨hg67, hP⟩ := hP
                  refine im_i2l (q := 112) D189_111 hg67 ?_
                  exact im_lret (q := 113) D189_112 rfl hP
                by_cases hc74 : p2 = 2
                · refine im_tsw (q := 47) (t := 113) D189_46 hg3 (fun _ => by rcases hc74 with hc74 <;> (rw [hc74]; rfl)) (by rcases hc74 with hc74 <;> (rw [hc74]; rfl)) ?_
                  replace hP := hP.2.2.1 hc74
                  refine im_ld (q := 114) (i := 0) D189_113 rfl rfl rfl ?_
                  refine im_gfR (q := 117) (b := 13) D189_114 (im_fl cn_189 fl_11_36) sf_0 rfl rfl tR_11_4 rfl ?_
                  refine im_ld (q := 118) (i := 0) D189_117 rfl rfl rfl ?_
                  refine im_gfR (q := 121) (b := 28) D189_118 (im_fl cn_189 fl_11_49) sf_0 rfl rfl tR_11_6 rfl ?_
                  refine im_ld (q := 122) (i := 1) D189_121 rfl rfl rfl ?_
                  refine im_rng (j := p1) sf_28 hg50.1 hg50.2 (fun hr69 => ?_)
                  refine im_iald (q := 123) D189_122 sf_28 hg50.1 hg50.2 (by decide) rfl ?_
                  refine im_callV (q := 126) (kd := 1) (y := 191) (n := 1) (ci := 5) (a := 13) (vs := [.ref 13, vI (M57 28 p1)]) (r := []) (L2 := [some (.ref 13), some (vI (M57 28 p1)), none, none, none, none, none, none]) D189_123 (im_cal cn_189 cl_11_205) (Or.inl rfl) rfl sf_13 rfl rfl rfl rfl hd ⟨rfl, rfl, trivial⟩ ?_
                  refine hP.mono ?_
                  rintro _ e73 M70 ⟨x71, rfl, rfl, hP⟩
                  refine im_bkS ?_
                  obtain ⟨hg72, hP⟩ := hP
                  refine im_i2l (q := 127) D189_126 hg72 ?_
                  exact im_lret (q := 128) D189_127 rfl hP
                by_cases hc80 : p2 = 3
                · refine im_tsw (q := 47) (t := 128) D189_46 hg3 (fun _ => by rcases hc80 with hc80 <;> (rw [hc80]; rfl)) (by rcases hc80 with hc80 <;> (rw [hc80]; rfl)) ?_
                  replace hP := hP.2.2.2.1 hc80
                  refine im_ld (q := 129) (i := 0) D189_128 rfl rfl rfl ?_
                  refine im_gfR (q := 132) (b := 13) D189_129 (im_fl cn_189 fl_11_36) sf_0 rfl rfl tR_11_4 rfl ?_
                  refine im_ld (q := 133) (i := 0) D189_132 rfl rfl rfl ?_
                  refine im_gfR (q := 136) (b := 28) D189_133 (im_fl cn_189 fl_11_49) sf_0 rfl rfl tR_11_6 rfl ?_
                  refine im_ld (q := 137) (i := 1) D189_136 rfl rfl rfl ?_
                  refine im_rng (j := p1) sf_28 hg50.1 hg50.2 (fun hr75 => ?_)
                  refine im_iald (q := 138) D189_137 sf_28 hg50.1 hg50.2 (by decide) rfl ?_
                  refine im_callV (q := 141) (kd := 1) (y := 192) (n := 1) (ci := 5) (a := 13) (vs := [.ref 13, vI (M57 28 p1)]) (r := []) (L2 := [some (.ref 13), some (vI (M57 28 p1)), none, none]) D189_138 (im_cal cn_189 cl_11_208) (Or.inl rfl) rfl sf_13 rfl rfl rfl rfl hd ⟨rfl, rfl, trivial⟩ ?_
                  refine hP.mono ?_
                  rintro _ e79 M76 ⟨x77, rfl, rfl, hP⟩
                  refine im_bkS ?_
                  obtain ⟨hg78, hP⟩ := hP
                  refine im_i2l (q := 142) D189_141 hg78 ?_
                  exact im_lret (q := 143) D189_142 rfl hP
                have hd86 : p2 < 0 ∨ 3 < p2 := by clear hP; omega
                refine im_tsw (q := 47) (t := 143) D189_46 hg3 (fun z9 => absurd hd86 z9) (by rw [if_pos hd86]; rfl) ?_
                replace hP := hP.2.2.2.2 hd86
                refine im_ld (q := 144) (i := 0) D189_143 rfl rfl rfl ?_
                refine im_gfR (q := 147) (b := 13) D189_144 (im_fl cn_189 fl_11_36) sf_0 rfl rfl tR_11_4 rfl ?_
                refine im_ld (q := 148) (i := 0) D189_147 rfl rfl rfl ?_
                refine im_gfR (q := 151) (b := 28) D189_148 (im_fl cn_189 fl_11_49) sf_0 rfl rfl tR_11_6 rfl ?_
                refine im_ld (q := 152) (i := 1) D189_151 rfl rfl rfl ?_
                refine im_rng (j := p1) sf_28 hg50.1 hg50.2 (fun hr81 => ?_)
                refine im_iald (q := 153) D189_152 sf_28 hg50.1 hg50.2 (by decide) rfl ?_
                refine im_callV (q := 156) (kd := 1) (y := 193) (n := 1) (ci := 5) (a := 13) (vs := [.ref 13, vI (M57 28 p1)]) (r := []) (L2 := [some (.ref 13), some (vI (M57 28 p1)), none, none, none, none]) D189_153 (im_cal cn_189 cl_11_211) (Or.inl rfl) rfl sf_13 rfl rfl rfl rfl hd ⟨rfl, rfl, trivial⟩ ?_
                refine hP.mono ?_
                rintro _ e85 M82 ⟨x83, rfl, rfl, hP⟩
                refine im_bkS ?_
                obtain ⟨hg84, hP⟩ := hP
                refine im_i2l (q := 157) D189_156 hg84 ?_
                exact im_lret (q := 158) D189_157 rfl hP
              · exact im_bkE rfl hX
            refine im_icmp (q := 37) (t := 41) D189_34 rfl hr51 (by decide) (fun hc52 => ?_) (fun hc52 => ?_)
            · refine im_iconst (q := 42) D189_41 ?_
              exact (kJ55 (0) (Or.inl ⟨hc52, rfl⟩)).wk ⟨rfl, rfl, rfl, trivial⟩
            · refine im_iconst (q := 38) D189_37 ?_
              refine im_goto (q := 41) (t := 42) D189_38 rfl ?_
              exact (kJ55 (1) (Or.inr ⟨hc52, rfl⟩)).wk ⟨rfl, rfl, rfl, trivial⟩
          · exact im_bkE rfl hX
    · exact im_bkE rfl hX
  · exact im_bkE rfl hX
set_option maxRecDepth 20000 in
set_option maxHeartbeats 4000000 in
theorem k_Pool_latestTime_0 {g : im_g} {d : Nat} {e : im_E} {M : im_M} {K : im_K} {p1 : Int} (hP : im_T g d 190 7 [some (.ref 13), some (vI p1), some (vL (-1)), none, some (vI p1)] [] e M K) : im_T g d 190 0 [some (.ref 13), some (vI p1), none, none, none] [] e M K := by
  refine im_ldc2 (q := 3) (n := (-1)) D190_0 rfl ?_
  refine im_st2 (q := 4) (i := 2) (L' := [some (.ref 13), some (vI p1), some (vL (-1)), none, none]) D190_3 (Or.inl ⟨_, rfl, rfl⟩) (Nat.le_of_ble_eq_true rfl) rfl ?_
  refine im_ld (q := 5) (i := 1) D190_4 rfl rfl rfl ?_
  refine im_st1 (q := 7) (i := 4) (L' := [some (.ref 13), some (vI p1), some (vL (-1)), none, some (vI p1)]) D190_5 (Or.inr rfl) (Nat.le_of_ble_eq_true rfl) rfl ?_
  exact hP.wk ⟨rfl, rfl, rfl, rfl, trivial⟩
set_option maxRecDepth 20000 in
set_option maxHeartbeats 4000000 in
theorem k_Pool_latestTime_7 {g : im_g} {d : Nat} {e : im_E} {M : im_M} {K : im_K} {p1 p2 p4 : Int} (hP : (0 ≤ p1 ∧ p1 < 5000) ∧ (im_i32 p4) ∧ (((((M 15 p1) ≤ p4 → K (.inl (some (vL p2))) e M) ∧ (p4 < (M 15 p1) → (0 ≤ p4 ∧ p4 < 5000) ∧ (((M 14 p4) = 3 → (((M 20 p4) = 0 → (im_i64 p2) ∧ im_T g d 190 7 [some (.ref 13), some (vI p1), some (vL (max p2 (M 19 p4))), none, some (vI (p4 + 1))] [] e M K))))))) ∧ ((((p4 < (M 15 p1)) ∧ (¬ (M 14 p4) = 3)) ∨ ((p4 < (M 15 p1)) ∧ ((M 14 p4) = 3) ∧ (¬ (M 20 p4) = 0))) → im_T g d 190 7 [some (.ref 13), some (vI p1), some (vL p2), none, some (vI (p4 + 1))] [] e M K))) : im_T g d 190 7 [some (.ref 13), some (vI p1), some (vL p2), none, some (vI p4)] [] e M K := by
  refine im_ld (q := 9) (i := 4) D190_7 rfl rfl rfl ?_
  refine im_ld (q := 10) (i := 0) D190_9 rfl rfl rfl ?_
  refine im_gfR (q := 13) (b := 15) D190_10 (im_fl cn_190 fl_5_15) sf_13 rfl rfl tR_5_1 rfl ?_
  refine im_ld (q := 14) (i := 1) D190_13 rfl rfl rfl ?_
  obtain ⟨hg1, hP⟩ := hP
  refine im_rng (j := p1) sf_15 hg1.1 hg1.2 (fun hr2 => ?_)
  refine im_iald (q := 15) D190_14 sf_15 hg1.1 hg1.2 (by decide) rfl ?_
  obtain ⟨hg3, hP⟩ := hP
  obtain ⟨hP, hJ11⟩ := hP
  have kJ12 : (((p4 < (M 15 p1)) ∧ (¬ (M 14 p4) = 3)) ∨ ((p4 < (M 15 p1)) ∧ ((M 14 p4) = 3) ∧ (¬ (M 20 p4) = 0))) → im_T g d 190 53 [some (.ref 13), some (vI p1), some (vL p2), none, some (vI p4)] [] e M K := by
    intro  hx13
    have hP := hJ11  hx13
    refine im_iinc (q := 56) (i := 4) (L' := [some (.ref 13), some (vI p1), some (vL p2), none, some (vI (p4 + 1))]) D190_53 rfl (Nat.le_of_ble_eq_true rfl) rfl ?_
    refine im_goto (q := 59) (t := 7) D190_56 rfl ?_
    exact hP.wk ⟨rfl, rfl, rfl, rfl, trivial⟩
  refine im_icmp (q := 18) (t := 59) D190_15 rfl hg3 hr2 (fun hc4 => ?_) (fun hc4 => ?_)
  · replace hP := hP.1 hc4
    refine im_ld (q := 60) (i := 2) D190_59 rfl rfl rfl ?_
    exact im_lret (q := 61) D190_60 rfl hP
  · replace hP := hP.2 (Int.not_le.mp hc4)
    refine im_ld (q := 19) (i := 0) D190_18 rfl rfl rfl ?_
    refine im_gfR (q := 22) (b := 14) D190_19 (im_fl cn_190 fl_5_9) sf_13 rfl rfl tR_5_0 rfl ?_
    refine im_ld (q := 24) (i := 4) D190_22 rfl rfl rfl ?_
    obtain ⟨hg5, hP⟩ := hP
    refine im_rng (j := p4) sf_14 hg5.1 hg5.2 (fun hr6 => ?_)
    refine im_iald (q := 25) D190_24 sf_14 hg5.1 hg5.2 (by decide) rfl ?_
    refine im_iconst (q := 26) D190_25 ?_
    refine im_icmp (q := 29) (t := 53) D190_26 rfl hr6 (by decide) (fun hc7 => ?_) (fun hc7 => ?_)
    · exact (kJ12  (Or.inl ⟨(Int.not_le.mp hc4), hc7⟩)).wk ⟨rfl, rfl, rfl, rfl, trivial⟩
    · replace hP := hP (Decidable.not_not.mp hc7)
      refine im_ld (q := 30) (i := 0) D190_29 rfl rfl rfl ?_
      refine im_gfR (q := 33) (b := 20) D190_30 (im_fl cn_190 fl_5_31) sf_13 rfl rfl tR_5_6 rfl ?_
      refine im_ld (q := 35) (i := 4) D190_33 rfl rfl rfl ?_
      refine im_rng (j := p4) sf_20 hg5.1 hg5.2 (fun hr8 => ?_)
      refine im_lald (q := 36) D190_35 sf_20 hg5.1 hg5.2 (by decide) rfl ?_
      refine im_lconst (q := 37) (z := 0) D190_36 rfl ?_
      refine im_lif (q := 38) (q2 := 41) (t := 53) D190_37 D190_38 rfl hr8 (by decide) (fun hc9 => ?_) (fun hc9 => ?_)
      · exact (kJ12  (Or.inr ⟨(Int.not_le.mp hc4), (Decidable.not_not.mp hc7), hc9⟩)).wk ⟨rfl, rfl, rfl, rfl, trivial⟩
      · replace hP := hP (Decidable.not_not.mp hc9)
        refine im_ld (q := 42) (i := 2) D190_41 rfl rfl rfl ?_
        refine im_ld (q := 43) (i := 0) D190_42 rfl rfl rfl ?_
        refine im_gfR (q := 46) (b := 19) D190_43 (im_fl cn_190 fl_5_27) sf_13 rfl rfl tR_5_5 rfl ?_
        refine im_ld (q := 48) (i := 4) D190_46 rfl rfl rfl ?_
        refine im_rng (j := p4) sf_19 hg5.1 hg5.2 (fun hr10 => ?_)
        refine im_lald (q := 49) D190_48 sf_19 hg5.1 hg5.2 (by decide) rfl ?_
        obtain ⟨hg14, hP⟩ := hP
        refine im_lmax (q := 52) D190_49 rfl hg14 hr10 rfl ?_
        refine im_st2 (q := 53) (i := 2) (L' := [some (.ref 13), some (vI p1), some (vL (max p2 (M 19 p4))), none, some (vI p4)]) D190_52 (Or.inl ⟨_, rfl, rfl⟩) (Nat.le_of_ble_eq_true rfl) rfl ?_
        refine im_iinc (q := 56) (i := 4) (L' := [some (.ref 13), some (vI p1), some (vL (max p2 (M 19 p4))), none, some (vI (p4 + 1))]) D190_53 rfl (Nat.le_of_ble_eq_true rfl) rfl ?_
        refine im_goto (q := 59) (t := 7) D190_56 rfl ?_
        exact hP.wk ⟨rfl, rfl, rfl, rfl, trivial⟩
set_option maxRecDepth 20000 in
set_option maxHeartbeats 4000000 in
theorem k_Pool_parametersOf_0 {g : im_g} {d : Nat} {e : im_E} {M : im_M} {K : im_K} {p1 : Int} (hP : im_T g d 191 4 [some (.ref 13), some (vI p1), some (vI 0), some (vI p1), none, none, none, none] [] e M K) : im_T g d 191 0 [some (.ref 13), some (vI p1), none, none, none, none, none, none] [] e M K := by
  refine im_iconst (q := 1) D191_0 ?_
  refine im_st1 (q := 2) (i := 2) (L' := [some (.ref 13), some (vI p1), some (vI 0), none, none, none, none, none]) D191_1 (Or.inl ⟨_, rfl, rfl⟩) (Nat.le_of_ble_eq_true rfl) rfl ?_
  refine im_ld (q := 3) (i := 1) D191_2 rfl rfl rfl ?_
  refine im_st1 (q := 4) (i := 3) (L' := [some (.ref 13), some (vI p1), some (vI 0), some (vI p1), none, none, none, none]) D191_3 (Or.inl ⟨_, rfl, rfl⟩) (Nat.le_of_ble_eq_true rfl) rfl ?_
  exact hP.wk ⟨rfl, rfl, rfl, rfl, trivial⟩
set_option maxRecDepth 20000 in
set_option maxHeartbeats 4000000 in
theorem k_Pool_parametersOf_4 {g : im_g} {d : Nat} {e : im_E} {M : im_M} {K : im_K} {p1 p2 p3 : Int} (hd : 1 ≤ d) (hP : (0 ≤ p1 ∧ p1 < 5000) ∧ (im_i32 p3) ∧ (((M 15 p1) ≤ p3 → K (.inl (some (vI p2))) e M) ∧ (p3 < (M 15 p1) → im_T g (d - 1) 87 0 [some (.ref 13), some (vI p3)] [] e M (im_rl (fun x6 e_ M5 => e = e_ ∧ (im_i64 x6) ∧ ((∀ x9 : Int, (((x6 = 0) ∧ x9 = 0) ∨ ((¬ x6 = 0) ∧ x9 = 1)) → im_T g d 191 38 [some (.ref 13), some (vI p1), some (vI p2), some (vI p3), some (vL x6), none, some (vI x9), some (vI p1)] [] e M5 K))))))) : im_T g d 191 4 [some (.ref 13), some (vI p1), some (vI p2), some (vI p3), none, none, none, none] [] e M K := by
  refine im_ld (q := 5) (i := 3) D191_4 rfl rfl rfl ?_
  refine im_ld (q := 6) (i := 0) D191_5 rfl rfl rfl ?_
  refine im_gfR (q := 9) (b := 15) D191_6 (im_fl cn_191 fl_5_15) sf_13 rfl rfl tR_5_1 rfl ?_
  refine im_ld (q := 10) (i := 1) D191_9 rfl rfl rfl ?_
  obtain ⟨hg1, hP⟩ := hP
  refine im_rng (j := p1) sf_15 hg1.1 hg1.2 (fun hr2 => ?_)
  refine im_iald (q := 11) D191_10 sf_15 hg1.1 hg1.2 (by decide) rfl ?_
  obtain ⟨hg3, hP⟩ := hP
  refine im_icmp (q := 14) (t := 93) D191_11 rfl hg3 hr2 (fun hc4 => ?_) (fun hc4 => ?_)
  · replace hP := hP.1 hc4
    refine im_ld (q := 94) (i := 2) D191_93 rfl rfl rfl ?_
    exact im_iret (q := 95) D191_94 rfl hP
  · replace hP := hP.2 (Int.not_le.mp hc4)
    refine im_ld (q := 15) (i := 0) D191_14 rfl rfl rfl ?_
    refine im_ld (q := 16) (i := 3) D191_15 rfl rfl rfl ?_
    refine im_callV (q := 19) (kd := 1) (y := 87) (n := 1) (ci := 5) (a := 13) (vs := [.ref 13, vI p3]) (r := []) (L2 := [some (.ref 13), some (vI p3)]) D191_16 (im_cal cn_191 cl_5_93) (Or.inl rfl) rfl sf_13 rfl rfl rfl rfl hd ⟨rfl, rfl, trivial⟩ ?_
    refine hP.mono ?_
    rintro _ e13 M5 ⟨x6, rfl, rfl, hP⟩
    refine im_bkS ?_
    refine im_st2 (q := 21) (i := 4) (L' := [some (.ref 13), some (vI p1), some (vI p2), some (vI p3), some (vL x6), none, none, none]) D191_19 (Or.inr rfl) (Nat.le_of_ble_eq_true rfl) rfl ?_
    refine im_ld (q := 23) (i := 4) D191_21 rfl rfl rfl ?_
    refine im_lconst (q := 24) (z := 0) D191_23 rfl ?_
    obtain ⟨hg7, hP⟩ := hP
    have hJ10 := hP
    have kJ11 : ∀ x9 : Int, (((x6 = 0) ∧ x9 = 0) ∨ ((¬ x6 = 0) ∧ x9 = 1)) → im_T g d 191 33 [some (.ref 13), some (vI p1), some (vI p2), some (vI p3), some (vL x6), none, none, none] [vI x9] e M5 K := by
      intro x9 hx12
      have hP := hJ10 x9 hx12
      refine im_st1 (q := 35) (i := 6) (L' := [some (.ref 13), some (vI p1), some (vI p2), some (vI p3), some (vL x6), none, some (vI x9), none]) D191_33 (Or.inr rfl) (Nat.le_of_ble_eq_true rfl) rfl ?_
      refine im_ld (q := 36) (i := 1) D191_35 rfl rfl rfl ?_
      refine im_st1 (q := 38) (i := 7) (L' := [some (.ref 13), some (vI p1), some (vI p2), some (vI p3), some (vL x6), none, some (vI x9), some (vI p1)]) D191_36 (Or.inr rfl) (Nat.le_of_ble_eq_true rfl) rfl ?_
      exact hP.wk ⟨rfl, rfl, rfl, rfl, rfl, rfl, rfl, trivial⟩
    refine im_lif (q := 25) (q2 := 28) (t := 32) D191_24 D191_25 rfl hg7 (by decide) (fun hc8 => ?_) (fun hc8 => ?_)
    · refine im_iconst (q := 33) D191_32 ?_
      exact (kJ11 (0) (Or.inl ⟨hc8, rfl⟩)).wk ⟨rfl, rfl, rfl, rfl, rfl, trivial⟩
    · refine im_iconst (q := 29) D191_28 ?_
      refine im_goto (q := 32) (t := 33) D191_29 rfl ?_
      exact (kJ11 (1) (Or.inr ⟨hc8, rfl⟩)).wk ⟨rfl, rfl, rfl, rfl, rfl, trivial⟩
set_option maxRecDepth 20000 in
set_option maxHeartbeats 4000000 in
theorem k_Pool_parametersOf_38 {g : im_g} {d : Nat} {e : im_E} {M : im_M} {K : im_K} {p1 p2 p3 p4 p6 p7 : Int} (hd : 1 ≤ d) (hP : (im_i32 p7) ∧ (im_i32 p3) ∧ ((((p7 < p3 → (im_i32 p6) ∧ ((¬ p6 = 0 → im_T g (d - 1) 87 0 [some (.ref 13), some (vI p7)] [] e M (im_rl (fun x16 e_ M15 => e = e_ ∧ (im_i64 x16) ∧ (im_i64 p4) ∧ ((∀ x20 : Int, (((x16 = p4) ∧ x20 = 0) ∨ ((¬ x16 = p4) ∧ x20 = 1)) → im_T g d 191 38 [some (.ref 13), some (vI p1), some (vI p2), some (vI p3), some (vL p4), none, some (vI x20), some (vI (p7 + 1))] [] e M15 K))))))))) ∧ ((((p3 ≤ p7)) ∨ ((p7 < p3) ∧ (p6 = 0))) → (im_i32 p6) ∧ ((∀ x11 : Int, (((p6 = 0) ∧ x11 = 0) ∨ ((¬ p6 = 0) ∧ x11 = 1)) → im_T g d 191 4 [some (.ref 13), some (vI p1), some (vI (p2 + x11)), some (vI (p3 + 1)), none, none, none, none] [] e M K))))) : im_T g d 191 38 [some (.ref 13), some (vI p1), some (vI p2), some (vI p3), some (vL p4), none, some (vI p6), some (vI p7)] [] e M K := by
  refine im_ld (q := 40) (i := 7) D191_38 rfl rfl rfl ?_
  refine im_ld (q := 41) (i := 3) D191_40 rfl rfl rfl ?_
  obtain ⟨hg1, hP⟩ := hP
  obtain ⟨hg2, hP⟩ := hP
  obtain ⟨hP, hJ6⟩ := hP
  have kJ7 : (((p3 ≤ p7)) ∨ ((p7 < p3) ∧ (p6 = 0))) → im_T g d 191 74 [some (.ref 13), some (vI p1), some (vI p2), some (vI p3), none, none, some (vI p6), none] [] e M K := by
    intro  hx8
    have hP := hJ6  hx8
    refine im_ld (q := 75) (i := 2) D191_74 rfl rfl rfl ?_
    refine im_ld (q := 77) (i := 6) D191_75 rfl rfl rfl ?_
    obtain ⟨hg9, hP⟩ := hP
    have hJ12 := hP
    have kJ13 : ∀ x11 : Int, (((p6 = 0) ∧ x11 = 0) ∨ ((¬ p6 = 0) ∧ x11 = 1)) → im_T g d 191 85 [some (.ref 13), some (vI p1), none, some (vI p3), none, none, none, none] [vI x11, vI p2] e M K := by
      intro x11 hx14
      have hP := hJ12 x11 hx14
      refine im_iadd (q := 86) D191_85 ?_
      refine im_st1 (q := 87) (i := 2) (L' := [some (.ref 13), some (vI p1), some (vI (p2 + x11)), some (vI p3), none, none, none, none]) D191_86 (Or.inl ⟨_, rfl, rfl⟩) (Nat.le_of_ble_eq_true rfl) rfl ?_
      refine im_iinc (q := 90) (i := 3) (L' := [some (.ref 13), some (vI p1), some (vI (p2 + x11)), some (vI (p3 + 1)), none, none, none, none]) D191_87 rfl (Nat.le_of_ble_eq_true rfl) rfl ?_
      refine im_goto (q := 93) (t := 4) D191_90 rfl ?_
      exact hP.wk ⟨rfl, rfl, rfl, rfl, trivial⟩
    refine im_ifc (q := 80) (t := 84) D191_77 rfl hg9 (fun hc10 => ?_) (fun hc10 => ?_)
    · refine im_iconst (q := 85) D191_84 ?_
      exact (kJ13 (0) (Or.inl ⟨hc10, rfl⟩)).wk ⟨rfl, rfl, rfl, trivial⟩
    · refine im_iconst (q := 81) D191_80 ?_
      refine im_goto (q := 84) (t := 85) D191_81 rfl ?_
      exact (kJ13 (1) (Or.inr ⟨hc10, rfl⟩)).wk ⟨rfl, rfl, rfl, trivial⟩
  refine im_icmp (q := 44) (t := 74) D191_41 rfl hg1 hg2 (fun hc3 => ?_) (fun hc3 => ?_)
  · exact (kJ7  (Or.inl hc3)).wk ⟨rfl, rfl, rfl, rfl, rfl, trivial⟩
  · replace hP := hP (Int.not_le.mp hc3)
    refine im_ld (q := 46) (i := 6) D191_44 rfl rfl rfl ?_
    obtain ⟨hg4, hP⟩ := hP
    refine im_ifc (q := 49) (t := 74) D191_46 rfl hg4 (fun hc5 => ?_) (fun hc5 => ?_)
    · exact (kJ7  (Or.inr ⟨(Int.not_le.mp hc3), hc5⟩)).wk ⟨rfl, rfl, rfl, rfl, rfl, trivial⟩
    · replace hP := hP hc5
      refine im_ld (q := 50) (i := 0) D191_49 rfl rfl rfl ?_
      refine im_ld (q := 52) (i := 7) D191_50 rfl rfl rfl ?_
      refine im_callV (q := 55) (kd := 1) (y := 87) (n := 1) (ci := 5) (a := 13) (vs := [.ref 13, vI p7]) (r := []) (L2 := [some (.ref 13), some (vI p7)]) D191_52 (im_cal cn_191 cl_5_93) (Or.inl rfl) rfl sf_13 rfl rfl rfl rfl hd ⟨rfl, rfl, trivial⟩ ?_
      refine hP.mono ?_
      rintro _ e24 M15 ⟨x16, rfl, rfl, hP⟩
      refine im_bkS ?_
      refine im_ld (q := 57) (i := 4) D191_55 rfl rfl rfl ?_
      obtain ⟨hg17, hP⟩ := hP
      obtain ⟨hg18, hP⟩ := hP
      have hJ21 := hP
      have kJ22 : ∀ x20 : Int, (((x16 = p4) ∧ x20 = 0) ∨ ((¬ x16 = p4) ∧ x20 = 1)) → im_T g d 191 66 [some (.ref 13), some (vI p1), some (vI p2), some (vI p3), some (vL p4), none, none, some (vI p7)] [vI x20] e M15 K := by
        intro x20 hx23
        have hP := hJ21 x20 hx23
        refine im_st1 (q := 68) (i := 6) (L' := [some (.ref 13), some (vI p1), some (vI p2), some (vI p3), some (vL p4), none, some (vI x20), some (vI p7)]) D191_66 (Or.inr rfl) (Nat.le_of_ble_eq_true rfl) rfl ?_
        refine im_iinc (q := 71) (i := 7) (L' := [some (.ref 13), some (vI p1), some (vI p2), some (vI p3), some (vL p4), none, some (vI x20), some (vI (p7 + 1))]) D191_68 rfl (Nat.le_of_ble_eq_true rfl) rfl ?_
        refine im_goto (q := 74) (t := 38) D191_71 rfl ?_
        exact hP.wk ⟨rfl, rfl, rfl, rfl, rfl, rfl, rfl, trivial⟩
      refine im_lif (q := 58) (q2 := 61) (t := 65) D191_57 D191_58 rfl hg17 hg18 (fun hc19 => ?_) (fun hc19 => ?_)
      · refine im_iconst (q := 66) D191_65 ?_
        exact (kJ22 (0) (Or.inl ⟨hc19, rfl⟩)).wk ⟨rfl, rfl, rfl, rfl, rfl, rfl, trivial⟩
      · refine im_iconst (q := 62) D191_61 ?_
        refine im_goto (q := 65) (t := 66) D191_62 rfl ?_
        exact (kJ22 (1) (Or.inr ⟨hc19, rfl⟩)).wk ⟨rfl, rfl, rfl, rfl, rfl, rfl, trivial⟩

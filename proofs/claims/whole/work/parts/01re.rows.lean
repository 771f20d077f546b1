theorem dX4_layNothing_46 : decode cX4_layNothing 46 = .ok (.goto (-39), 3) := by decide +kernel
theorem dX4_layNothing_49 : decode cX4_layNothing 49 = .ok (.return_, 1) := by decide +kernel
theorem dX4_laySlice_0 : decode cX4_laySlice 0 = .ok (.aload_n 1, 1) := by decide +kernel
theorem dX4_laySlice_1 : decode cX4_laySlice 1 = .ok (.iconst 0, 1) := by decide +kernel
theorem dX4_laySlice_2 : decode cX4_laySlice 2 = .ok (.putfield 94, 3) := by decide +kernel
theorem dX4_laySlice_5 : decode cX4_laySlice 5 = .ok (.aload_n 0, 1) := by decide +kernel
theorem dX4_laySlice_6 : decode cX4_laySlice 6 = .ok (.getfield 18, 3) := by decide +kernel
theorem dX4_laySlice_9 : decode cX4_laySlice 9 = .ok (.getfield 164, 3) := by decide +kernel
theorem dX4_laySlice_12 : decode cX4_laySlice 12 = .ok (.aload_n 0, 1) := by decide +kernel
theorem dX4_laySlice_13 : decode cX4_laySlice 13 = .ok (.getfield 18, 3) := by decide +kernel
theorem dX4_laySlice_16 : decode cX4_laySlice 16 = .ok (.getfield 166, 3) := by decide +kernel
theorem dX4_laySlice_19 : decode cX4_laySlice 19 = .ok (.if_icmp .lt 7, 3) := by decide +kernel
theorem dX4_laySlice_22 : decode cX4_laySlice 22 = .ok (.iconst 1, 1) := by decide +kernel
theorem dX4_laySlice_23 : decode cX4_laySlice 23 = .ok (.goto 4, 3) := by decide +kernel
theorem dX4_laySlice_26 : decode cX4_laySlice 26 = .ok (.iconst 0, 1) := by decide +kernel
theorem dX4_laySlice_27 : decode cX4_laySlice 27 = .ok (.istore_n 2, 1) := by decide +kernel
theorem dX4_laySlice_28 : decode cX4_laySlice 28 = .ok (.iload_n 2, 1) := by decide +kernel
theorem dX4_laySlice_29 : decode cX4_laySlice 29 = .ok (.ifCond .eq 13, 3) := by decide +kernel
theorem dX4_laySlice_32 : decode cX4_laySlice 32 = .ok (.aload_n 0, 1) := by decide +kernel
theorem dX4_laySlice_33 : decode cX4_laySlice 33 = .ok (.getfield 18, 3) := by decide +kernel
theorem dX4_laySlice_36 : decode cX4_laySlice 36 = .ok (.getfield 164, 3) := by decide +kernel
theorem dX4_laySlice_39 : decode cX4_laySlice 39 = .ok (.goto 10, 3) := by decide +kernel
theorem dX4_laySlice_42 : decode cX4_laySlice 42 = .ok (.aload_n 0, 1) := by decide +kernel
theorem dX4_laySlice_43 : decode cX4_laySlice 43 = .ok (.getfield 18, 3) := by decide +kernel
theorem dX4_laySlice_46 : decode cX4_laySlice 46 = .ok (.getfield 166, 3) := by decide +kernel
theorem dX4_laySlice_49 : decode cX4_laySlice 49 = .ok (.istore_n 3, 1) := by decide +kernel
theorem dX4_laySlice_50 : decode cX4_laySlice 50 = .ok (.iconst 0, 1) := by decide +kernel
theorem dX4_laySlice_51 : decode cX4_laySlice 51 = .ok (.istore 4, 2) := by decide +kernel
theorem dX4_laySlice_53 : decode cX4_laySlice 53 = .ok (.iload 4, 2) := by decide +kernel
theorem dX4_laySlice_55 : decode cX4_laySlice 55 = .ok (.aload_n 0, 1) := by decide +kernel
theorem dX4_laySlice_56 : decode cX4_laySlice 56 = .ok (.getfield 18, 3) := by decide +kernel
theorem dX4_laySlice_59 : decode cX4_laySlice 59 = .ok (.getfield 52, 3) := by decide +kernel
theorem dX4_laySlice_62 : decode cX4_laySlice 62 = .ok (.if_icmp .ge 133, 3) := by decide +kernel
theorem dX4_laySlice_65 : decode cX4_laySlice 65 = .ok (.aload_n 0, 1) := by decide +kernel
theorem dX4_laySlice_66 : decode cX4_laySlice 66 = .ok (.getfield 18, 3) := by decide +kernel
theorem dX4_laySlice_69 : decode cX4_laySlice 69 = .ok (.iload 4, 2) := by decide +kernel
theorem dX4_laySlice_71 : decode cX4_laySlice 71 = .ok (.iload_n 3, 1) := by decide +kernel
theorem dX4_laySlice_72 : decode cX4_laySlice 72 = .ok (.iconst 0, 1) := by decide +kernel
theorem dX4_laySlice_73 : decode cX4_laySlice 73 = .ok (.aload_n 0, 1) := by decide +kernel
theorem dX4_laySlice_74 : decode cX4_laySlice 74 = .ok (.getfield 18, 3) := by decide +kernel
theorem dX4_laySlice_77 : decode cX4_laySlice 77 = .ok (.getfield 52, 3) := by decide +kernel
theorem dX4_laySlice_80 : decode cX4_laySlice 80 = .ok (.invokevirtual 168, 3) := by decide +kernel
theorem dX4_laySlice_83 : decode cX4_laySlice 83 = .ok (.istore 5, 2) := by decide +kernel
theorem dX4_laySlice_85 : decode cX4_laySlice 85 = .ok (.aload_n 0, 1) := by decide +kernel
theorem dX4_laySlice_86 : decode cX4_laySlice 86 = .ok (.getfield 18, 3) := by decide +kernel
theorem dX4_laySlice_89 : decode cX4_laySlice 89 = .ok (.iload 4, 2) := by decide +kernel
theorem dX4_laySlice_91 : decode cX4_laySlice 91 = .ok (.iconst 1, 1) := by decide +kernel
theorem dX4_laySlice_92 : decode cX4_laySlice 92 = .ok (.iadd, 1) := by decide +kernel
theorem dX4_laySlice_93 : decode cX4_laySlice 93 = .ok (.iload_n 3, 1) := by decide +kernel
theorem dX4_laySlice_94 : decode cX4_laySlice 94 = .ok (.iconst 0, 1) := by decide +kernel
theorem dX4_laySlice_95 : decode cX4_laySlice 95 = .ok (.aload_n 0, 1) := by decide +kernel
theorem dX4_laySlice_96 : decode cX4_laySlice 96 = .ok (.getfield 18, 3) := by decide +kernel
theorem dX4_laySlice_99 : decode cX4_laySlice 99 = .ok (.getfield 52, 3) := by decide +kernel
theorem dX4_laySlice_102 : decode cX4_laySlice 102 = .ok (.invokevirtual 168, 3) := by decide +kernel
theorem dX4_laySlice_105 : decode cX4_laySlice 105 = .ok (.iload 5, 2) := by decide +kernel
theorem dX4_laySlice_107 : decode cX4_laySlice 107 = .ok (.isub, 1) := by decide +kernel
theorem dX4_laySlice_108 : decode cX4_laySlice 108 = .ok (.istore 6, 2) := by decide +kernel
theorem dX4_laySlice_110 : decode cX4_laySlice 110 = .ok (.iload_n 2, 1) := by decide +kernel
theorem dX4_laySlice_111 : decode cX4_laySlice 111 = .ok (.ifCond .eq 42, 3) := by decide +kernel
theorem dX4_laySlice_114 : decode cX4_laySlice 114 = .ok (.aload_n 1, 1) := by decide +kernel
theorem dX4_laySlice_115 : decode cX4_laySlice 115 = .ok (.aload_n 0, 1) := by decide +kernel
theorem dX4_laySlice_116 : decode cX4_laySlice 116 = .ok (.getfield 18, 3) := by decide +kernel
theorem dX4_laySlice_119 : decode cX4_laySlice 119 = .ok (.iload 4, 2) := by decide +kernel
theorem dX4_laySlice_121 : decode cX4_laySlice 121 = .ok (.aload_n 0, 1) := by decide +kernel
theorem dX4_laySlice_122 : decode cX4_laySlice 122 = .ok (.getfield 18, 3) := by decide +kernel
theorem dX4_laySlice_125 : decode cX4_laySlice 125 = .ok (.getfield 157, 3) := by decide +kernel
theorem dX4_laySlice_128 : decode cX4_laySlice 128 = .ok (.iload 5, 2) := by decide +kernel
theorem dX4_laySlice_130 : decode cX4_laySlice 130 = .ok (.iadd, 1) := by decide +kernel
theorem dX4_laySlice_131 : decode cX4_laySlice 131 = .ok (.aload_n 0, 1) := by decide +kernel
theorem dX4_laySlice_132 : decode cX4_laySlice 132 = .ok (.getfield 18, 3) := by decide +kernel
theorem dX4_laySlice_135 : decode cX4_laySlice 135 = .ok (.getfield 159, 3) := by decide +kernel
theorem dX4_laySlice_138 : decode cX4_laySlice 138 = .ok (.iload 6, 2) := by decide +kernel
theorem dX4_laySlice_140 : decode cX4_laySlice 140 = .ok (.aload_n 0, 1) := by decide +kernel
theorem dX4_laySlice_141 : decode cX4_laySlice 141 = .ok (.getfield 18, 3) := by decide +kernel
theorem dX4_laySlice_144 : decode cX4_laySlice 144 = .ok (.getfield 166, 3) := by decide +kernel
theorem dX4_laySlice_147 : decode cX4_laySlice 147 = .ok (.invokevirtual 161, 3) := by decide +kernel
theorem dX4_laySlice_150 : decode cX4_laySlice 150 = .ok (.goto 39, 3) := by decide +kernel
theorem dX4_laySlice_153 : decode cX4_laySlice 153 = .ok (.aload_n 1, 1) := by decide +kernel
theorem dX4_laySlice_154 : decode cX4_laySlice 154 = .ok (.aload_n 0, 1) := by decide +kernel
theorem dX4_laySlice_155 : decode cX4_laySlice 155 = .ok (.getfield 18, 3) := by decide +kernel
theorem dX4_laySlice_158 : decode cX4_laySlice 158 = .ok (.iload 4, 2) := by decide +kernel
theorem dX4_laySlice_160 : decode cX4_laySlice 160 = .ok (.aload_n 0, 1) := by decide +kernel
theorem dX4_laySlice_161 : decode cX4_laySlice 161 = .ok (.getfield 18, 3) := by decide +kernel
theorem dX4_laySlice_164 : decode cX4_laySlice 164 = .ok (.getfield 157, 3) := by decide +kernel
theorem dX4_laySlice_167 : decode cX4_laySlice 167 = .ok (.aload_n 0, 1) := by decide +kernel
theorem dX4_laySlice_168 : decode cX4_laySlice 168 = .ok (.getfield 18, 3) := by decide +kernel
theorem dX4_laySlice_171 : decode cX4_laySlice 171 = .ok (.getfield 159, 3) := by decide +kernel
theorem dX4_laySlice_174 : decode cX4_laySlice 174 = .ok (.iload 5, 2) := by decide +kernel
theorem dX4_laySlice_176 : decode cX4_laySlice 176 = .ok (.iadd, 1) := by decide +kernel
theorem dX4_laySlice_177 : decode cX4_laySlice 177 = .ok (.aload_n 0, 1) := by decide +kernel
theorem dX4_laySlice_178 : decode cX4_laySlice 178 = .ok (.getfield 18, 3) := by decide +kernel
theorem dX4_laySlice_181 : decode cX4_laySlice 181 = .ok (.getfield 164, 3) := by decide +kernel
theorem dX4_laySlice_184 : decode cX4_laySlice 184 = .ok (.iload 6, 2) := by decide +kernel
theorem dX4_laySlice_186 : decode cX4_laySlice 186 = .ok (.invokevirtual 161, 3) := by decide +kernel
theorem dX4_laySlice_189 : decode cX4_laySlice 189 = .ok (.iinc 4 1, 3) := by decide +kernel
theorem dX4_laySlice_192 : decode cX4_laySlice 192 = .ok (.goto (-139), 3) := by decide +kernel
theorem dX4_laySlice_195 : decode cX4_laySlice 195 = .ok (.return_, 1) := by decide +kernel
theorem dX5_init_0 : decode cX5_init 0 = .ok (.aload_n 0, 1) := by decide +kernel
theorem dX5_init_1 : decode cX5_init 1 = .ok (.invokespecial 3, 3) := by decide +kernel
theorem dX5_init_4 : decode cX5_init 4 = .ok (.aload_n 0, 1) := by decide +kernel
theorem dX5_init_5 : decode cX5_init 5 = .ok (.iconst 0, 1) := by decide +kernel
theorem dX5_init_6 : decode cX5_init 6 = .ok (.putfield 9, 3) := by decide +kernel
theorem dX5_init_9 : decode cX5_init 9 = .ok (.aload_n 0, 1) := by decide +kernel
theorem dX5_init_10 : decode cX5_init 10 = .ok (.new 15, 3) := by decide +kernel
theorem dX5_init_13 : decode cX5_init 13 = .ok (.dup, 1) := by decide +kernel
theorem dX5_init_14 : decode cX5_init 14 = .ok (.bipush 8, 2) := by decide +kernel
theorem dX5_init_16 : decode cX5_init 16 = .ok (.invokespecial 17, 3) := by decide +kernel
theorem dX5_init_19 : decode cX5_init 19 = .ok (.putfield 20, 3) := by decide +kernel
theorem dX5_init_22 : decode cX5_init 22 = .ok (.return_, 1) := by decide +kernel
theorem dX5_put_0 : decode cX5_put 0 = .ok (.aload_n 0, 1) := by decide +kernel
theorem dX5_put_1 : decode cX5_put 1 = .ok (.getfield 20, 3) := by decide +kernel
theorem dX5_put_4 : decode cX5_put 4 = .ok (.iload_n 2, 1) := by decide +kernel
theorem dX5_put_5 : decode cX5_put 5 = .ok (.iload_n 3, 1) := by decide +kernel
theorem dX5_put_6 : decode cX5_put 6 = .ok (.iload 4, 2) := by decide +kernel
theorem dX5_put_8 : decode cX5_put 8 = .ok (.iload 5, 2) := by decide +kernel
theorem dX5_put_10 : decode cX5_put 10 = .ok (.iload 6, 2) := by decide +kernel
theorem dX5_put_12 : decode cX5_put 12 = .ok (.invokevirtual 24, 3) := by decide +kernel
theorem dX5_put_15 : decode cX5_put 15 = .ok (.aload_n 0, 1) := by decide +kernel
theorem dX5_put_16 : decode cX5_put 16 = .ok (.aload_n 0, 1) := by decide +kernel
theorem dX5_put_17 : decode cX5_put 17 = .ok (.getfield 9, 3) := by decide +kernel
theorem dX5_put_20 : decode cX5_put 20 = .ok (.aload_n 1, 1) := by decide +kernel
theorem dX5_put_21 : decode cX5_put 21 = .ok (.getfield 28, 3) := by decide +kernel
theorem dX5_put_24 : decode cX5_put 24 = .ok (.iload_n 2, 1) := by decide +kernel
theorem dX5_put_25 : decode cX5_put 25 = .ok (.iaload, 1) := by decide +kernel
theorem dX5_put_26 : decode cX5_put 26 = .ok (.iload 5, 2) := by decide +kernel
theorem dX5_put_28 : decode cX5_put 28 = .ok (.iload 6, 2) := by decide +kernel
theorem dX5_put_30 : decode cX5_put 30 = .ok (.invokestatic 34, 3) := by decide +kernel
theorem dX5_put_33 : decode cX5_put 33 = .ok (.invokestatic 38, 3) := by decide +kernel
theorem dX5_put_36 : decode cX5_put 36 = .ok (.putfield 9, 3) := by decide +kernel
theorem dX5_put_39 : decode cX5_put 39 = .ok (.return_, 1) := by decide +kernel
theorem dX6_init_0 : decode cX6_init 0 = .ok (.aload_n 0, 1) := by decide +kernel
theorem dX6_init_1 : decode cX6_init 1 = .ok (.invokespecial 3, 3) := by decide +kernel
theorem dX6_init_4 : decode cX6_init 4 = .ok (.aload_n 0, 1) := by decide +kernel
theorem dX6_init_5 : decode cX6_init 5 = .ok (.new 9, 3) := by decide +kernel
theorem dX6_init_8 : decode cX6_init 8 = .ok (.dup, 1) := by decide +kernel
theorem dX6_init_9 : decode cX6_init 9 = .ok (.invokespecial 11, 3) := by decide +kernel
theorem dX6_init_12 : decode cX6_init 12 = .ok (.putfield 12, 3) := by decide +kernel
theorem dX6_init_15 : decode cX6_init 15 = .ok (.aload_n 0, 1) := by decide +kernel
theorem dX6_init_16 : decode cX6_init 16 = .ok (.new 18, 3) := by decide +kernel
theorem dX6_init_19 : decode cX6_init 19 = .ok (.dup, 1) := by decide +kernel
theorem dX6_init_20 : decode cX6_init 20 = .ok (.invokespecial 20, 3) := by decide +kernel
theorem dX6_init_23 : decode cX6_init 23 = .ok (.putfield 21, 3) := by decide +kernel
theorem dX6_init_26 : decode cX6_init 26 = .ok (.aload_n 0, 1) := by decide +kernel
theorem dX6_init_27 : decode cX6_init 27 = .ok (.iconst (-1), 1) := by decide +kernel
theorem dX6_init_28 : decode cX6_init 28 = .ok (.putfield 25, 3) := by decide +kernel
theorem dX6_init_31 : decode cX6_init 31 = .ok (.return_, 1) := by decide +kernel
theorem dX6_read_0 : decode cX6_read 0 = .ok (.aload_n 0, 1) := by decide +kernel
theorem dX6_read_1 : decode cX6_read 1 = .ok (.getfield 21, 3) := by decide +kernel
theorem dX6_read_4 : decode cX6_read 4 = .ok (.iconst 0, 1) := by decide +kernel
theorem dX6_read_5 : decode cX6_read 5 = .ok (.putfield 29, 3) := by decide +kernel
theorem dX6_read_8 : decode cX6_read 8 = .ok (.aload_n 0, 1) := by decide +kernel
theorem dX6_read_9 : decode cX6_read 9 = .ok (.getfield 21, 3) := by decide +kernel
theorem dX6_read_12 : decode cX6_read 12 = .ok (.iconst 0, 1) := by decide +kernel
theorem dX6_read_13 : decode cX6_read 13 = .ok (.putfield 32, 3) := by decide +kernel
theorem dX6_read_16 : decode cX6_read 16 = .ok (.aload_n 0, 1) := by decide +kernel
theorem dX6_read_17 : decode cX6_read 17 = .ok (.iconst 0, 1) := by decide +kernel
theorem dX6_read_18 : decode cX6_read 18 = .ok (.putfield 35, 3) := by decide +kernel
theorem dX6_read_21 : decode cX6_read 21 = .ok (.aload_n 0, 1) := by decide +kernel
theorem dX6_read_22 : decode cX6_read 22 = .ok (.iconst (-1), 1) := by decide +kernel
theorem dX6_read_23 : decode cX6_read 23 = .ok (.putfield 38, 3) := by decide +kernel
theorem dX6_read_26 : decode cX6_read 26 = .ok (.aload_n 0, 1) := by decide +kernel
theorem dX6_read_27 : decode cX6_read 27 = .ok (.iconst 0, 1) := by decide +kernel
theorem dX6_read_28 : decode cX6_read 28 = .ok (.putfield 41, 3) := by decide +kernel
theorem dX6_read_31 : decode cX6_read 31 = .ok (.aload_n 0, 1) := by decide +kernel
theorem dX6_read_32 : decode cX6_read 32 = .ok (.iconst (-1), 1) := by decide +kernel
theorem dX6_read_33 : decode cX6_read 33 = .ok (.putfield 25, 3) := by decide +kernel
theorem dX6_read_36 : decode cX6_read 36 = .ok (.iconst 0, 1) := by decide +kernel
theorem dX6_read_37 : decode cX6_read 37 = .ok (.istore_n 1, 1) := by decide +kernel
theorem dX6_read_38 : decode cX6_read 38 = .ok (.iload_n 1, 1) := by decide +kernel
theorem dX6_read_39 : decode cX6_read 39 = .ok (.sipush 1000, 3) := by decide +kernel
theorem dX6_read_42 : decode cX6_read 42 = .ok (.if_icmp .gt 42, 3) := by decide +kernel
theorem dX6_read_45 : decode cX6_read 45 = .ok (.aload_n 0, 1) := by decide +kernel
theorem dX6_read_46 : decode cX6_read 46 = .ok (.invokevirtual 44, 3) := by decide +kernel
theorem dX6_read_49 : decode cX6_read 49 = .ok (.aload_n 0, 1) := by decide +kernel
theorem dX6_read_50 : decode cX6_read 50 = .ok (.invokevirtual 47, 3) := by decide +kernel
theorem dX6_read_53 : decode cX6_read 53 = .ok (.istore_n 2, 1) := by decide +kernel
theorem dX6_read_54 : decode cX6_read 54 = .ok (.iload_n 2, 1) := by decide +kernel
theorem dX6_read_55 : decode cX6_read 55 = .ok (.ifCond .eq 13, 3) := by decide +kernel
theorem dX6_read_58 : decode cX6_read 58 = .ok (.aload_n 0, 1) := by decide +kernel
theorem dX6_read_59 : decode cX6_read 59 = .ok (.aload_n 0, 1) := by decide +kernel
theorem dX6_read_60 : decode cX6_read 60 = .ok (.getfield 51, 3) := by decide +kernel
theorem dX6_read_63 : decode cX6_read 63 = .ok (.putfield 25, 3) := by decide +kernel
theorem dX6_read_66 : decode cX6_read 66 = .ok (.iload_n 2, 1) := by decide +kernel
theorem dX6_read_67 : decode cX6_read 67 = .ok (.ireturn, 1) := by decide +kernel
theorem dX6_read_68 : decode cX6_read 68 = .ok (.aload_n 0, 1) := by decide +kernel
theorem dX6_read_69 : decode cX6_read 69 = .ok (.getfield 54, 3) := by decide +kernel
theorem dX6_read_72 : decode cX6_read 72 = .ok (.iconst (-1), 1) := by decide +kernel
theorem dX6_read_73 : decode cX6_read 73 = .ok (.if_icmp .ne 5, 3) := by decide +kernel
theorem dX6_read_76 : decode cX6_read 76 = .ok (.iconst 0, 1) := by decide +kernel
theorem dX6_read_77 : decode cX6_read 77 = .ok (.ireturn, 1) := by decide +kernel
theorem dX6_read_78 : decode cX6_read 78 = .ok (.iinc 1 1, 3) := by decide +kernel
theorem dX6_read_81 : decode cX6_read 81 = .ok (.goto (-43), 3) := by decide +kernel
theorem dX6_read_84 : decode cX6_read 84 = .ok (.iconst 0, 1) := by decide +kernel
theorem dX6_read_85 : decode cX6_read 85 = .ok (.ireturn, 1) := by decide +kernel
theorem dX6_nextToken_0 : decode cX6_nextToken 0 = .ok (.aload_n 0, 1) := by decide +kernel
theorem dX6_nextToken_1 : decode cX6_nextToken 1 = .ok (.aload_n 0, 1) := by decide +kernel
theorem dX6_nextToken_2 : decode cX6_nextToken 2 = .ok (.getfield 41, 3) := by decide +kernel
theorem dX6_nextToken_5 : decode cX6_nextToken 5 = .ok (.putfield 51, 3) := by decide +kernel
theorem dX6_nextToken_8 : decode cX6_nextToken 8 = .ok (.aload_n 0, 1) := by decide +kernel
theorem dX6_nextToken_9 : decode cX6_nextToken 9 = .ok (.getfield 51, 3) := by decide +kernel
theorem dX6_nextToken_12 : decode cX6_nextToken 12 = .ok (.aload_n 0, 1) := by decide +kernel
theorem dX6_nextToken_13 : decode cX6_nextToken 13 = .ok (.getfield 12, 3) := by decide +kernel
theorem dX6_nextToken_16 : decode cX6_nextToken 16 = .ok (.getfield 57, 3) := by decide +kernel
theorem dX6_nextToken_19 : decode cX6_nextToken 19 = .ok (.if_icmp .ge 33, 3) := by decide +kernel
theorem dX6_nextToken_22 : decode cX6_nextToken 22 = .ok (.aload_n 0, 1) := by decide +kernel
theorem dX6_nextToken_23 : decode cX6_nextToken 23 = .ok (.getfield 12, 3) := by decide +kernel
theorem dX6_nextToken_26 : decode cX6_nextToken 26 = .ok (.aload_n 0, 1) := by decide +kernel
theorem dX6_nextToken_27 : decode cX6_nextToken 27 = .ok (.getfield 51, 3) := by decide +kernel
theorem dX6_nextToken_30 : decode cX6_nextToken 30 = .ok (.invokevirtual 60, 3) := by decide +kernel
theorem dX6_nextToken_33 : decode cX6_nextToken 33 = .ok (.invokestatic 64, 3) := by decide +kernel
theorem dX6_nextToken_36 : decode cX6_nextToken 36 = .ok (.ifCond .eq 16, 3) := by decide +kernel
theorem dX6_nextToken_39 : decode cX6_nextToken 39 = .ok (.aload_n 0, 1) := by decide +kernel
theorem dX6_nextToken_40 : decode cX6_nextToken 40 = .ok (.dup, 1) := by decide +kernel
theorem dX6_nextToken_41 : decode cX6_nextToken 41 = .ok (.getfield 51, 3) := by decide +kernel
theorem dX6_nextToken_44 : decode cX6_nextToken 44 = .ok (.iconst 1, 1) := by decide +kernel
theorem dX6_nextToken_45 : decode cX6_nextToken 45 = .ok (.iadd, 1) := by decide +kernel
theorem dX6_nextToken_46 : decode cX6_nextToken 46 = .ok (.putfield 51, 3) := by decide +kernel
theorem dX6_nextToken_49 : decode cX6_nextToken 49 = .ok (.goto (-41), 3) := by decide +kernel
theorem dX6_nextToken_52 : decode cX6_nextToken 52 = .ok (.aload_n 0, 1) := by decide +kernel
theorem dX6_nextToken_53 : decode cX6_nextToken 53 = .ok (.aload_n 0, 1) := by decide +kernel
theorem dX6_nextToken_54 : decode cX6_nextToken 54 = .ok (.getfield 12, 3) := by decide +kernel
theorem dX6_nextToken_57 : decode cX6_nextToken 57 = .ok (.aload_n 0, 1) := by decide +kernel
theorem dX6_nextToken_58 : decode cX6_nextToken 58 = .ok (.getfield 51, 3) := by decide +kernel
theorem dX6_nextToken_61 : decode cX6_nextToken 61 = .ok (.invokevirtual 60, 3) := by decide +kernel
theorem dX6_nextToken_64 : decode cX6_nextToken 64 = .ok (.invokestatic 68, 3) := by decide +kernel
theorem dX6_nextToken_67 : decode cX6_nextToken 67 = .ok (.putfield 54, 3) := by decide +kernel
theorem dX6_nextToken_70 : decode cX6_nextToken 70 = .ok (.aload_n 0, 1) := by decide +kernel
theorem dX6_nextToken_71 : decode cX6_nextToken 71 = .ok (.aload_n 0, 1) := by decide +kernel
theorem dX6_nextToken_72 : decode cX6_nextToken 72 = .ok (.getfield 51, 3) := by decide +kernel
theorem dX6_nextToken_75 : decode cX6_nextToken 75 = .ok (.iconst 1, 1) := by decide +kernel
theorem dX6_nextToken_76 : decode cX6_nextToken 76 = .ok (.iadd, 1) := by decide +kernel
theorem dX6_nextToken_77 : decode cX6_nextToken 77 = .ok (.putfield 41, 3) := by decide +kernel
theorem dX6_nextToken_80 : decode cX6_nextToken 80 = .ok (.aload_n 0, 1) := by decide +kernel
theorem dX6_nextToken_81 : decode cX6_nextToken 81 = .ok (.getfield 41, 3) := by decide +kernel
theorem dX6_nextToken_84 : decode cX6_nextToken 84 = .ok (.aload_n 0, 1) := by decide +kernel
theorem dX6_nextToken_85 : decode cX6_nextToken 85 = .ok (.getfield 12, 3) := by decide +kernel
theorem dX6_nextToken_88 : decode cX6_nextToken 88 = .ok (.getfield 57, 3) := by decide +kernel
theorem dX6_nextToken_91 : decode cX6_nextToken 91 = .ok (.if_icmp .ge 55, 3) := by decide +kernel
theorem dX6_nextToken_94 : decode cX6_nextToken 94 = .ok (.aload_n 0, 1) := by decide +kernel
theorem dX6_nextToken_95 : decode cX6_nextToken 95 = .ok (.getfield 54, 3) := by decide +kernel
theorem dX6_nextToken_98 : decode cX6_nextToken 98 = .ok (.bipush 97, 2) := by decide +kernel
theorem dX6_nextToken_100 : decode cX6_nextToken 100 = .ok (.if_icmp .eq 12, 3) := by decide +kernel
theorem dX6_nextToken_103 : decode cX6_nextToken 103 = .ok (.aload_n 0, 1) := by decide +kernel
theorem dX6_nextToken_104 : decode cX6_nextToken 104 = .ok (.getfield 54, 3) := by decide +kernel
theorem dX6_nextToken_107 : decode cX6_nextToken 107 = .ok (.bipush 48, 2) := by decide +kernel
theorem dX6_nextToken_109 : decode cX6_nextToken 109 = .ok (.if_icmp .ne 37, 3) := by decide +kernel
theorem dX6_nextToken_112 : decode cX6_nextToken 112 = .ok (.aload_n 0, 1) := by decide +kernel
theorem dX6_nextToken_113 : decode cX6_nextToken 113 = .ok (.getfield 12, 3) := by decide +kernel
theorem dX6_nextToken_116 : decode cX6_nextToken 116 = .ok (.aload_n 0, 1) := by decide +kernel
theorem dX6_nextToken_117 : decode cX6_nextToken 117 = .ok (.getfield 41, 3) := by decide +kernel
theorem dX6_nextToken_120 : decode cX6_nextToken 120 = .ok (.invokevirtual 60, 3) := by decide +kernel
theorem dX6_nextToken_123 : decode cX6_nextToken 123 = .ok (.invokestatic 68, 3) := by decide +kernel
theorem dX6_nextToken_126 : decode cX6_nextToken 126 = .ok (.aload_n 0, 1) := by decide +kernel
theorem dX6_nextToken_127 : decode cX6_nextToken 127 = .ok (.getfield 54, 3) := by decide +kernel
theorem dX6_nextToken_130 : decode cX6_nextToken 130 = .ok (.if_icmp .ne 16, 3) := by decide +kernel
theorem dX6_nextToken_133 : decode cX6_nextToken 133 = .ok (.aload_n 0, 1) := by decide +kernel
theorem dX6_nextToken_134 : decode cX6_nextToken 134 = .ok (.dup, 1) := by decide +kernel
theorem dX6_nextToken_135 : decode cX6_nextToken 135 = .ok (.getfield 41, 3) := by decide +kernel
theorem dX6_nextToken_138 : decode cX6_nextToken 138 = .ok (.iconst 1, 1) := by decide +kernel
theorem dX6_nextToken_139 : decode cX6_nextToken 139 = .ok (.iadd, 1) := by decide +kernel
theorem dX6_nextToken_140 : decode cX6_nextToken 140 = .ok (.putfield 41, 3) := by decide +kernel
theorem dX6_nextToken_143 : decode cX6_nextToken 143 = .ok (.goto (-63), 3) := by decide +kernel
theorem dX6_nextToken_146 : decode cX6_nextToken 146 = .ok (.return_, 1) := by decide +kernel
theorem dX6_isBlank_0 : decode cX6_isBlank 0 = .ok (.iload_n 0, 1) := by decide +kernel
theorem dX6_isBlank_1 : decode cX6_isBlank 1 = .ok (.bipush 32, 2) := by decide +kernel
theorem dX6_isBlank_3 : decode cX6_isBlank 3 = .ok (.if_icmp .eq 9, 3) := by decide +kernel
theorem dX6_isBlank_6 : decode cX6_isBlank 6 = .ok (.iload_n 0, 1) := by decide +kernel
theorem dX6_isBlank_7 : decode cX6_isBlank 7 = .ok (.bipush 10, 2) := by decide +kernel
theorem dX6_isBlank_9 : decode cX6_isBlank 9 = .ok (.if_icmp .ne 7, 3) := by decide +kernel
theorem dX6_isBlank_12 : decode cX6_isBlank 12 = .ok (.iconst 1, 1) := by decide +kernel
theorem dX6_isBlank_13 : decode cX6_isBlank 13 = .ok (.goto 4, 3) := by decide +kernel
theorem dX6_isBlank_16 : decode cX6_isBlank 16 = .ok (.iconst 0, 1) := by decide +kernel
theorem dX6_isBlank_17 : decode cX6_isBlank 17 = .ok (.ireturn, 1) := by decide +kernel
theorem dX6_kindOf_0 : decode cX6_kindOf 0 = .ok (.iload_n 0, 1) := by decide +kernel
theorem dX6_kindOf_1 : decode cX6_kindOf 1 = .ok (.bipush 97, 2) := by decide +kernel
theorem dX6_kindOf_3 : decode cX6_kindOf 3 = .ok (.if_icmp .lt 12, 3) := by decide +kernel
theorem dX6_kindOf_6 : decode cX6_kindOf 6 = .ok (.iload_n 0, 1) := by decide +kernel
theorem dX6_kindOf_7 : decode cX6_kindOf 7 = .ok (.bipush 122, 2) := by decide +kernel
theorem dX6_kindOf_9 : decode cX6_kindOf 9 = .ok (.if_icmp .gt 6, 3) := by decide +kernel
theorem dX6_kindOf_12 : decode cX6_kindOf 12 = .ok (.bipush 97, 2) := by decide +kernel
theorem dX6_kindOf_14 : decode cX6_kindOf 14 = .ok (.ireturn, 1) := by decide +kernel
theorem dX6_kindOf_15 : decode cX6_kindOf 15 = .ok (.iload_n 0, 1) := by decide +kernel
theorem dX6_kindOf_16 : decode cX6_kindOf 16 = .ok (.bipush 48, 2) := by decide +kernel
theorem dX6_kindOf_18 : decode cX6_kindOf 18 = .ok (.if_icmp .lt 14, 3) := by decide +kernel
theorem dX6_kindOf_21 : decode cX6_kindOf 21 = .ok (.iload_n 0, 1) := by decide +kernel
theorem dX6_kindOf_22 : decode cX6_kindOf 22 = .ok (.bipush 57, 2) := by decide +kernel
theorem dX6_kindOf_24 : decode cX6_kindOf 24 = .ok (.if_icmp .gt 8, 3) := by decide +kernel
theorem dX6_kindOf_27 : decode cX6_kindOf 27 = .ok (.bipush 48, 2) := by decide +kernel
theorem dX6_kindOf_29 : decode cX6_kindOf 29 = .ok (.goto 4, 3) := by decide +kernel
theorem dX6_kindOf_32 : decode cX6_kindOf 32 = .ok (.iload_n 0, 1) := by decide +kernel
theorem dX6_kindOf_33 : decode cX6_kindOf 33 = .ok (.ireturn, 1) := by decide +kernel
theorem dX6_take_0 : decode cX6_take 0 = .ok (.aload_n 0, 1) := by decide +kernel
theorem dX6_take_1 : decode cX6_take 1 = .ok (.getfield 35, 3) := by decide +kernel
theorem dX6_take_4 : decode cX6_take 4 = .ok (.tableswitch 126 0 4 #[36, 41, 70, 94, 102], 36) := by decide +kernel
theorem dX6_take_40 : decode cX6_take 40 = .ok (.aload_n 0, 1) := by decide +kernel
theorem dX6_take_41 : decode cX6_take 41 = .ok (.invokevirtual 71, 3) := by decide +kernel
theorem dX6_take_44 : decode cX6_take 44 = .ok (.ireturn, 1) := by decide +kernel
theorem dX6_take_45 : decode cX6_take 45 = .ok (.aload_n 0, 1) := by decide +kernel
theorem dX6_take_46 : decode cX6_take 46 = .ok (.getfield 54, 3) := by decide +kernel
theorem dX6_take_49 : decode cX6_take 49 = .ok (.bipush 48, 2) := by decide +kernel
theorem dX6_take_51 : decode cX6_take 51 = .ok (.if_icmp .ne 18, 3) := by decide +kernel
theorem dX6_take_54 : decode cX6_take 54 = .ok (.aload_n 0, 1) := by decide +kernel
theorem dX6_take_55 : decode cX6_take 55 = .ok (.getfield 38, 3) := by decide +kernel
theorem dX6_take_58 : decode cX6_take 58 = .ok (.iconst (-1), 1) := by decide +kernel
theorem dX6_take_59 : decode cX6_take 59 = .ok (.if_icmp .eq 10, 3) := by decide +kernel
theorem dX6_take_62 : decode cX6_take 62 = .ok (.aload_n 0, 1) := by decide +kernel
theorem dX6_take_63 : decode cX6_take 63 = .ok (.invokevirtual 74, 3) := by decide +kernel
theorem dX6_take_66 : decode cX6_take 66 = .ok (.goto 7, 3) := by decide +kernel
theorem dX6_take_69 : decode cX6_take 69 = .ok (.aload_n 0, 1) := by decide +kernel
theorem dX6_take_70 : decode cX6_take 70 = .ok (.invokevirtual 77, 3) := by decide +kernel
theorem dX6_take_73 : decode cX6_take 73 = .ok (.ireturn, 1) := by decide +kernel
theorem dX6_take_74 : decode cX6_take 74 = .ok (.aload_n 0, 1) := by decide +kernel
theorem dX6_take_75 : decode cX6_take 75 = .ok (.ldc 80, 2) := by decide +kernel
theorem dX6_take_77 : decode cX6_take 77 = .ok (.invokevirtual 82, 3) := by decide +kernel
theorem dX6_take_80 : decode cX6_take 80 = .ok (.ifCond .eq 10, 3) := by decide +kernel
theorem dX6_take_83 : decode cX6_take 83 = .ok (.aload_n 0, 1) := by decide +kernel
theorem dX6_take_84 : decode cX6_take 84 = .ok (.invokevirtual 86, 3) := by decide +kernel
theorem dX6_take_87 : decode cX6_take 87 = .ok (.goto 10, 3) := by decide +kernel
theorem dX6_take_90 : decode cX6_take 90 = .ok (.aload_n 0, 1) := by decide +kernel
theorem dX6_take_91 : decode cX6_take 91 = .ok (.bipush 40, 2) := by decide +kernel
theorem dX6_take_93 : decode cX6_take 93 = .ok (.iconst 0, 1) := by decide +kernel
theorem dX6_take_94 : decode cX6_take 94 = .ok (.invokevirtual 89, 3) := by decide +kernel
theorem dX6_take_97 : decode cX6_take 97 = .ok (.ireturn, 1) := by decide +kernel
theorem dX6_take_98 : decode cX6_take 98 = .ok (.aload_n 0, 1) := by decide +kernel
theorem dX6_take_99 : decode cX6_take 99 = .ok (.bipush 40, 2) := by decide +kernel
theorem dX6_take_101 : decode cX6_take 101 = .ok (.iconst 0, 1) := by decide +kernel
theorem dX6_take_102 : decode cX6_take 102 = .ok (.invokevirtual 89, 3) := by decide +kernel
theorem dX6_take_105 : decode cX6_take 105 = .ok (.ireturn, 1) := by decide +kernel
theorem dX6_take_106 : decode cX6_take 106 = .ok (.aload_n 0, 1) := by decide +kernel
theorem dX6_take_107 : decode cX6_take 107 = .ok (.getfield 54, 3) := by decide +kernel
theorem dX6_take_110 : decode cX6_take 110 = .ok (.bipush 41, 2) := by decide +kernel
theorem dX6_take_112 : decode cX6_take 112 = .ok (.if_icmp .ne 10, 3) := by decide +kernel
theorem dX6_take_115 : decode cX6_take 115 = .ok (.aload_n 0, 1) := by decide +kernel
theorem dX6_take_116 : decode cX6_take 116 = .ok (.invokevirtual 93, 3) := by decide +kernel
theorem dX6_take_119 : decode cX6_take 119 = .ok (.goto 10, 3) := by decide +kernel
theorem dX6_take_122 : decode cX6_take 122 = .ok (.aload_n 0, 1) := by decide +kernel
theorem dX6_take_123 : decode cX6_take 123 = .ok (.bipush 44, 2) := by decide +kernel
theorem dX6_take_125 : decode cX6_take 125 = .ok (.iconst 0, 1) := by decide +kernel
theorem dX6_take_126 : decode cX6_take 126 = .ok (.invokevirtual 89, 3) := by decide +kernel
theorem dX6_take_129 : decode cX6_take 129 = .ok (.ireturn, 1) := by decide +kernel
theorem dX6_take_130 : decode cX6_take 130 = .ok (.aload_n 0, 1) := by decide +kernel
theorem dX6_take_131 : decode cX6_take 131 = .ok (.getfield 54, 3) := by decide +kernel
theorem dX6_take_134 : decode cX6_take 134 = .ok (.iconst (-1), 1) := by decide +kernel
theorem dX6_take_135 : decode cX6_take 135 = .ok (.if_icmp .ne 7, 3) := by decide +kernel
theorem dX6_take_138 : decode cX6_take 138 = .ok (.iconst 0, 1) := by decide +kernel
theorem dX6_take_139 : decode cX6_take 139 = .ok (.goto 4, 3) := by decide +kernel
theorem dX6_take_142 : decode cX6_take 142 = .ok (.iconst 1, 1) := by decide +kernel
theorem dX6_take_143 : decode cX6_take 143 = .ok (.ireturn, 1) := by decide +kernel
theorem dX6_takeName_0 : decode cX6_takeName 0 = .ok (.aload_n 0, 1) := by decide +kernel
theorem dX6_takeName_1 : decode cX6_takeName 1 = .ok (.getfield 54, 3) := by decide +kernel
theorem dX6_takeName_4 : decode cX6_takeName 4 = .ok (.bipush 97, 2) := by decide +kernel
theorem dX6_takeName_6 : decode cX6_takeName 6 = .ok (.if_icmp .ne 34, 3) := by decide +kernel
theorem dX6_takeName_9 : decode cX6_takeName 9 = .ok (.aload_n 0, 1) := by decide +kernel
theorem dX6_takeName_10 : decode cX6_takeName 10 = .ok (.getfield 41, 3) := by decide +kernel
theorem dX6_takeName_13 : decode cX6_takeName 13 = .ok (.aload_n 0, 1) := by decide +kernel
theorem dX6_takeName_14 : decode cX6_takeName 14 = .ok (.getfield 51, 3) := by decide +kernel
theorem dX6_takeName_17 : decode cX6_takeName 17 = .ok (.isub, 1) := by decide +kernel
theorem dX6_takeName_18 : decode cX6_takeName 18 = .ok (.bipush 8, 2) := by decide +kernel
theorem dX6_takeName_20 : decode cX6_takeName 20 = .ok (.if_icmp .gt 20, 3) := by decide +kernel
theorem dX6_takeName_23 : decode cX6_takeName 23 = .ok (.aload_n 0, 1) := by decide +kernel
theorem dX6_takeName_24 : decode cX6_takeName 24 = .ok (.ldc 80, 2) := by decide +kernel
theorem dX6_takeName_26 : decode cX6_takeName 26 = .ok (.invokevirtual 82, 3) := by decide +kernel
theorem dX6_takeName_29 : decode cX6_takeName 29 = .ok (.ifCond .ne 11, 3) := by decide +kernel
theorem dX6_takeName_32 : decode cX6_takeName 32 = .ok (.aload_n 0, 1) := by decide +kernel
theorem dX6_takeName_33 : decode cX6_takeName 33 = .ok (.invokevirtual 96, 3) := by decide +kernel
theorem dX6_takeName_36 : decode cX6_takeName 36 = .ok (.iconst (-1), 1) := by decide +kernel
theorem dX6_takeName_37 : decode cX6_takeName 37 = .ok (.if_icmp .eq 5, 3) := by decide +kernel
theorem dX6_takeName_40 : decode cX6_takeName 40 = .ok (.iconst 1, 1) := by decide +kernel
theorem dX6_takeName_41 : decode cX6_takeName 41 = .ok (.ireturn, 1) := by decide +kernel
theorem dX6_takeName_42 : decode cX6_takeName 42 = .ok (.aload_n 0, 1) := by decide +kernel
theorem dX6_takeName_43 : decode cX6_takeName 43 = .ok (.getfield 21, 3) := by decide +kernel
theorem dX6_takeName_46 : decode cX6_takeName 46 = .ok (.getfield 29, 3) := by decide +kernel
theorem dX6_takeName_49 : decode cX6_takeName 49 = .ok (.bipush 40, 2) := by decide +kernel
theorem dX6_takeName_51 : decode cX6_takeName 51 = .ok (.if_icmp .ge 34, 3) := by decide +kernel
theorem dX6_takeName_54 : decode cX6_takeName 54 = .ok (.aload_n 0, 1) := by decide +kernel
theorem dX6_takeName_55 : decode cX6_takeName 55 = .ok (.getfield 21, 3) := by decide +kernel
theorem dX6_takeName_58 : decode cX6_takeName 58 = .ok (.aload_n 0, 1) := by decide +kernel
theorem dX6_takeName_59 : decode cX6_takeName 59 = .ok (.getfield 38, 3) := by decide +kernel
theorem dX6_takeName_62 : decode cX6_takeName 62 = .ok (.invokevirtual 99, 3) := by decide +kernel
theorem dX6_takeName_65 : decode cX6_takeName 65 = .ok (.ifCond .eq 22, 3) := by decide +kernel
theorem dX6_takeName_68 : decode cX6_takeName 68 = .ok (.aload_n 0, 1) := by decide +kernel
theorem dX6_takeName_69 : decode cX6_takeName 69 = .ok (.getfield 21, 3) := by decide +kernel
theorem dX6_takeName_72 : decode cX6_takeName 72 = .ok (.getfield 102, 3) := by decide +kernel
theorem dX6_takeName_75 : decode cX6_takeName 75 = .ok (.aload_n 0, 1) := by decide +kernel
theorem dX6_takeName_76 : decode cX6_takeName 76 = .ok (.getfield 38, 3) := by decide +kernel
theorem dX6_takeName_79 : decode cX6_takeName 79 = .ok (.iaload, 1) := by decide +kernel
theorem dX6_takeName_80 : decode cX6_takeName 80 = .ok (.bipush 8, 2) := by decide +kernel
theorem dX6_takeName_82 : decode cX6_takeName 82 = .ok (.if_icmp .lt 5, 3) := by decide +kernel
theorem dX6_takeName_85 : decode cX6_takeName 85 = .ok (.iconst 2, 1) := by decide +kernel
theorem dX6_takeName_86 : decode cX6_takeName 86 = .ok (.ireturn, 1) := by decide +kernel
theorem dX6_takeName_87 : decode cX6_takeName 87 = .ok (.aload_n 0, 1) := by decide +kernel
theorem dX6_takeName_88 : decode cX6_takeName 88 = .ok (.getfield 21, 3) := by decide +kernel
theorem dX6_takeName_91 : decode cX6_takeName 91 = .ok (.aload_n 0, 1) := by decide +kernel
theorem dX6_takeName_92 : decode cX6_takeName 92 = .ok (.getfield 12, 3) := by decide +kernel
theorem dX6_takeName_95 : decode cX6_takeName 95 = .ok (.aload_n 0, 1) := by decide +kernel
theorem dX6_takeName_96 : decode cX6_takeName 96 = .ok (.getfield 51, 3) := by decide +kernel
theorem dX6_takeName_99 : decode cX6_takeName 99 = .ok (.aload_n 0, 1) := by decide +kernel
theorem dX6_takeName_100 : decode cX6_takeName 100 = .ok (.getfield 41, 3) := by decide +kernel
theorem dX6_takeName_103 : decode cX6_takeName 103 = .ok (.invokevirtual 106, 3) := by decide +kernel
theorem dX6_takeName_106 : decode cX6_takeName 106 = .ok (.iconst (-1), 1) := by decide +kernel
theorem dX6_takeName_107 : decode cX6_takeName 107 = .ok (.if_icmp .eq 5, 3) := by decide +kernel
theorem dX6_takeName_110 : decode cX6_takeName 110 = .ok (.iconst 3, 1) := by decide +kernel
theorem dX6_takeName_111 : decode cX6_takeName 111 = .ok (.ireturn, 1) := by decide +kernel
theorem dX6_takeName_112 : decode cX6_takeName 112 = .ok (.aload_n 0, 1) := by decide +kernel
theorem dX6_takeName_113 : decode cX6_takeName 113 = .ok (.getfield 21, 3) := by decide +kernel
theorem dX6_takeName_116 : decode cX6_takeName 116 = .ok (.aload_n 0, 1) := by decide +kernel
theorem dX6_takeName_117 : decode cX6_takeName 117 = .ok (.getfield 38, 3) := by decide +kernel
theorem dX6_takeName_120 : decode cX6_takeName 120 = .ok (.aload_n 0, 1) := by decide +kernel
theorem dX6_takeName_121 : decode cX6_takeName 121 = .ok (.getfield 12, 3) := by decide +kernel
theorem dX6_takeName_124 : decode cX6_takeName 124 = .ok (.aload_n 0, 1) := by decide +kernel
theorem dX6_takeName_125 : decode cX6_takeName 125 = .ok (.getfield 51, 3) := by decide +kernel
theorem dX6_takeName_128 : decode cX6_takeName 128 = .ok (.aload_n 0, 1) := by decide +kernel
theorem dX6_takeName_129 : decode cX6_takeName 129 = .ok (.getfield 41, 3) := by decide +kernel
theorem dX6_takeName_132 : decode cX6_takeName 132 = .ok (.invokevirtual 110, 3) := by decide +kernel
theorem dX6_takeName_135 : decode cX6_takeName 135 = .ok (.aload_n 0, 1) := by decide +kernel
theorem dX6_takeName_136 : decode cX6_takeName 136 = .ok (.iconst 1, 1) := by decide +kernel
theorem dX6_takeName_137 : decode cX6_takeName 137 = .ok (.putfield 35, 3) := by decide +kernel
theorem dX6_takeName_140 : decode cX6_takeName 140 = .ok (.iconst 0, 1) := by decide +kernel
theorem dX6_takeName_141 : decode cX6_takeName 141 = .ok (.ireturn, 1) := by decide +kernel
theorem dX6_takeNumber_0 : decode cX6_takeNumber 0 = .ok (.aload_n 0, 1) := by decide +kernel
theorem dX6_takeNumber_1 : decode cX6_takeNumber 1 = .ok (.getfield 41, 3) := by decide +kernel
theorem dX6_takeNumber_4 : decode cX6_takeNumber 4 = .ok (.aload_n 0, 1) := by decide +kernel
theorem dX6_takeNumber_5 : decode cX6_takeNumber 5 = .ok (.getfield 51, 3) := by decide +kernel
theorem dX6_takeNumber_8 : decode cX6_takeNumber 8 = .ok (.isub, 1) := by decide +kernel
theorem dX6_takeNumber_9 : decode cX6_takeNumber 9 = .ok (.bipush 6, 2) := by decide +kernel
theorem dX6_takeNumber_11 : decode cX6_takeNumber 11 = .ok (.if_icmp .le 5, 3) := by decide +kernel
theorem dX6_takeNumber_14 : decode cX6_takeNumber 14 = .ok (.iconst 1, 1) := by decide +kernel
theorem dX6_takeNumber_15 : decode cX6_takeNumber 15 = .ok (.ireturn, 1) := by decide +kernel
theorem dX6_takeNumber_16 : decode cX6_takeNumber 16 = .ok (.iconst 0, 1) := by decide +kernel
theorem dX6_takeNumber_17 : decode cX6_takeNumber 17 = .ok (.istore_n 1, 1) := by decide +kernel
theorem dX6_takeNumber_18 : decode cX6_takeNumber 18 = .ok (.aload_n 0, 1) := by decide +kernel
theorem dX6_takeNumber_19 : decode cX6_takeNumber 19 = .ok (.getfield 51, 3) := by decide +kernel
theorem dX6_takeNumber_22 : decode cX6_takeNumber 22 = .ok (.istore_n 2, 1) := by decide +kernel
theorem dX6_takeNumber_23 : decode cX6_takeNumber 23 = .ok (.iload_n 2, 1) := by decide +kernel
theorem dX6_takeNumber_24 : decode cX6_takeNumber 24 = .ok (.aload_n 0, 1) := by decide +kernel
theorem dX6_takeNumber_25 : decode cX6_takeNumber 25 = .ok (.getfield 41, 3) := by decide +kernel
theorem dX6_takeNumber_28 : decode cX6_takeNumber 28 = .ok (.if_icmp .ge 26, 3) := by decide +kernel
theorem dX6_takeNumber_31 : decode cX6_takeNumber 31 = .ok (.iload_n 1, 1) := by decide +kernel
theorem dX6_takeNumber_32 : decode cX6_takeNumber 32 = .ok (.bipush 10, 2) := by decide +kernel
theorem dX6_takeNumber_34 : decode cX6_takeNumber 34 = .ok (.imul, 1) := by decide +kernel
theorem dX6_takeNumber_35 : decode cX6_takeNumber 35 = .ok (.aload_n 0, 1) := by decide +kernel
theorem dX6_takeNumber_36 : decode cX6_takeNumber 36 = .ok (.getfield 12, 3) := by decide +kernel
theorem dX6_takeNumber_39 : decode cX6_takeNumber 39 = .ok (.iload_n 2, 1) := by decide +kernel
theorem dX6_takeNumber_40 : decode cX6_takeNumber 40 = .ok (.invokevirtual 60, 3) := by decide +kernel
theorem dX6_takeNumber_43 : decode cX6_takeNumber 43 = .ok (.iadd, 1) := by decide +kernel
theorem dX6_takeNumber_44 : decode cX6_takeNumber 44 = .ok (.bipush 48, 2) := by decide +kernel
theorem dX6_takeNumber_46 : decode cX6_takeNumber 46 = .ok (.isub, 1) := by decide +kernel
theorem dX6_takeNumber_47 : decode cX6_takeNumber 47 = .ok (.istore_n 1, 1) := by decide +kernel
theorem dX6_takeNumber_48 : decode cX6_takeNumber 48 = .ok (.iinc 2 1, 3) := by decide +kernel
theorem dX6_takeNumber_51 : decode cX6_takeNumber 51 = .ok (.goto (-28), 3) := by decide +kernel
theorem dX6_takeNumber_54 : decode cX6_takeNumber 54 = .ok (.aload_n 0, 1) := by decide +kernel
theorem dX6_takeNumber_55 : decode cX6_takeNumber 55 = .ok (.getfield 21, 3) := by decide +kernel
theorem dX6_takeNumber_58 : decode cX6_takeNumber 58 = .ok (.getfield 29, 3) := by decide +kernel
theorem dX6_takeNumber_61 : decode cX6_takeNumber 61 = .ok (.iconst 1, 1) := by decide +kernel
theorem dX6_takeNumber_62 : decode cX6_takeNumber 62 = .ok (.isub, 1) := by decide +kernel
theorem dX6_takeNumber_63 : decode cX6_takeNumber 63 = .ok (.istore_n 2, 1) := by decide +kernel
theorem dX6_takeNumber_64 : decode cX6_takeNumber 64 = .ok (.aload_n 0, 1) := by decide +kernel
theorem dX6_takeNumber_65 : decode cX6_takeNumber 65 = .ok (.getfield 21, 3) := by decide +kernel
theorem dX6_takeNumber_68 : decode cX6_takeNumber 68 = .ok (.iload_n 2, 1) := by decide +kernel
theorem dX6_takeNumber_69 : decode cX6_takeNumber 69 = .ok (.invokevirtual 99, 3) := by decide +kernel
theorem dX6_takeNumber_72 : decode cX6_takeNumber 72 = .ok (.ifCond .eq 13, 3) := by decide +kernel
theorem dX6_takeNumber_75 : decode cX6_takeNumber 75 = .ok (.aload_n 0, 1) := by decide +kernel
theorem dX6_takeNumber_76 : decode cX6_takeNumber 76 = .ok (.getfield 21, 3) := by decide +kernel
theorem dX6_takeNumber_79 : decode cX6_takeNumber 79 = .ok (.getfield 114, 3) := by decide +kernel
theorem dX6_takeNumber_82 : decode cX6_takeNumber 82 = .ok (.iload_n 2, 1) := by decide +kernel
theorem dX6_takeNumber_83 : decode cX6_takeNumber 83 = .ok (.iload_n 1, 1) := by decide +kernel
theorem dX6_takeNumber_84 : decode cX6_takeNumber 84 = .ok (.iastore, 1) := by decide +kernel
theorem dX6_takeNumber_85 : decode cX6_takeNumber 85 = .ok (.aload_n 0, 1) := by decide +kernel
theorem dX6_takeNumber_86 : decode cX6_takeNumber 86 = .ok (.iconst 4, 1) := by decide +kernel
theorem dX6_takeNumber_87 : decode cX6_takeNumber 87 = .ok (.putfield 35, 3) := by decide +kernel
theorem dX6_takeNumber_90 : decode cX6_takeNumber 90 = .ok (.iconst 0, 1) := by decide +kernel
theorem dX6_takeNumber_91 : decode cX6_takeNumber 91 = .ok (.ireturn, 1) := by decide +kernel
theorem dX6_takeHow_0 : decode cX6_takeHow 0 = .ok (.aload_n 0, 1) := by decide +kernel
theorem dX6_takeHow_1 : decode cX6_takeHow 1 = .ok (.invokevirtual 96, 3) := by decide +kernel
theorem dX6_takeHow_4 : decode cX6_takeHow 4 = .ok (.istore_n 1, 1) := by decide +kernel
theorem dX6_takeHow_5 : decode cX6_takeHow 5 = .ok (.aload_n 0, 1) := by decide +kernel
theorem dX6_takeHow_6 : decode cX6_takeHow 6 = .ok (.getfield 21, 3) := by decide +kernel
theorem dX6_takeHow_9 : decode cX6_takeHow 9 = .ok (.getfield 29, 3) := by decide +kernel
theorem dX6_takeHow_12 : decode cX6_takeHow 12 = .ok (.iconst 1, 1) := by decide +kernel
theorem dX6_takeHow_13 : decode cX6_takeHow 13 = .ok (.isub, 1) := by decide +kernel
theorem dX6_takeHow_14 : decode cX6_takeHow 14 = .ok (.istore_n 2, 1) := by decide +kernel
theorem dX6_takeHow_15 : decode cX6_takeHow 15 = .ok (.iload_n 1, 1) := by decide +kernel
theorem dX6_takeHow_16 : decode cX6_takeHow 16 = .ok (.iconst (-1), 1) := by decide +kernel
theorem dX6_takeHow_17 : decode cX6_takeHow 17 = .ok (.if_icmp .eq 14, 3) := by decide +kernel
theorem dX6_takeHow_20 : decode cX6_takeHow 20 = .ok (.aload_n 0, 1) := by decide +kernel
theorem dX6_takeHow_21 : decode cX6_takeHow 21 = .ok (.getfield 21, 3) := by decide +kernel
theorem dX6_takeHow_24 : decode cX6_takeHow 24 = .ok (.iload_n 2, 1) := by decide +kernel
theorem dX6_takeHow_25 : decode cX6_takeHow 25 = .ok (.invokevirtual 99, 3) := by decide +kernel
theorem dX6_takeHow_28 : decode cX6_takeHow 28 = .ok (.ifCond .ne 5, 3) := by decide +kernel
theorem dX6_takeHow_31 : decode cX6_takeHow 31 = .ok (.iconst 1, 1) := by decide +kernel
theorem dX6_takeHow_32 : decode cX6_takeHow 32 = .ok (.ireturn, 1) := by decide +kernel
theorem dX6_takeHow_33 : decode cX6_takeHow 33 = .ok (.aload_n 0, 1) := by decide +kernel
theorem dX6_takeHow_34 : decode cX6_takeHow 34 = .ok (.getfield 21, 3) := by decide +kernel
theorem dX6_takeHow_37 : decode cX6_takeHow 37 = .ok (.getfield 117, 3) := by decide +kernel
theorem dX6_takeHow_40 : decode cX6_takeHow 40 = .ok (.iload_n 2, 1) := by decide +kernel
theorem dX6_takeHow_41 : decode cX6_takeHow 41 = .ok (.iaload, 1) := by decide +kernel
theorem dX6_takeHow_42 : decode cX6_takeHow 42 = .ok (.iconst 5, 1) := by decide +kernel
theorem dX6_takeHow_43 : decode cX6_takeHow 43 = .ok (.if_icmp .le 5, 3) := by decide +kernel
theorem dX6_takeHow_46 : decode cX6_takeHow 46 = .ok (.iconst 2, 1) := by decide +kernel
theorem dX6_takeHow_47 : decode cX6_takeHow 47 = .ok (.ireturn, 1) := by decide +kernel
theorem dX6_takeHow_48 : decode cX6_takeHow 48 = .ok (.aload_n 0, 1) := by decide +kernel
theorem dX6_takeHow_49 : decode cX6_takeHow 49 = .ok (.getfield 21, 3) := by decide +kernel
theorem dX6_takeHow_52 : decode cX6_takeHow 52 = .ok (.getfield 120, 3) := by decide +kernel
theorem dX6_takeHow_55 : decode cX6_takeHow 55 = .ok (.iload_n 2, 1) := by decide +kernel
theorem dX6_takeHow_56 : decode cX6_takeHow 56 = .ok (.iload_n 1, 1) := by decide +kernel
theorem dX6_takeHow_57 : decode cX6_takeHow 57 = .ok (.iastore, 1) := by decide +kernel
theorem dX6_takeHow_58 : decode cX6_takeHow 58 = .ok (.aload_n 0, 1) := by decide +kernel
theorem dX6_takeHow_59 : decode cX6_takeHow 59 = .ok (.getfield 21, 3) := by decide +kernel
theorem dX6_takeHow_62 : decode cX6_takeHow 62 = .ok (.dup, 1) := by decide +kernel
theorem dX6_takeHow_63 : decode cX6_takeHow 63 = .ok (.getfield 32, 3) := by decide +kernel
theorem dX6_takeHow_66 : decode cX6_takeHow 66 = .ok (.iconst 1, 1) := by decide +kernel
theorem dX6_takeHow_67 : decode cX6_takeHow 67 = .ok (.iadd, 1) := by decide +kernel
theorem dX6_takeHow_68 : decode cX6_takeHow 68 = .ok (.putfield 32, 3) := by decide +kernel
theorem dX6_takeHow_71 : decode cX6_takeHow 71 = .ok (.aload_n 0, 1) := by decide +kernel
theorem dX6_takeHow_72 : decode cX6_takeHow 72 = .ok (.iload_n 2, 1) := by decide +kernel
theorem dX6_takeHow_73 : decode cX6_takeHow 73 = .ok (.putfield 38, 3) := by decide +kernel
theorem dX6_takeHow_76 : decode cX6_takeHow 76 = .ok (.aload_n 0, 1) := by decide +kernel
theorem dX6_takeHow_77 : decode cX6_takeHow 77 = .ok (.iconst 2, 1) := by decide +kernel
theorem dX6_takeHow_78 : decode cX6_takeHow 78 = .ok (.putfield 35, 3) := by decide +kernel
theorem dX6_takeHow_81 : decode cX6_takeHow 81 = .ok (.iconst 0, 1) := by decide +kernel
theorem dX6_takeHow_82 : decode cX6_takeHow 82 = .ok (.ireturn, 1) := by decide +kernel
theorem dX6_takeSorted_0 : decode cX6_takeSorted 0 = .ok (.aload_n 0, 1) := by decide +kernel
theorem dX6_takeSorted_1 : decode cX6_takeSorted 1 = .ok (.getfield 21, 3) := by decide +kernel
theorem dX6_takeSorted_4 : decode cX6_takeSorted 4 = .ok (.aload_n 0, 1) := by decide +kernel
theorem dX6_takeSorted_5 : decode cX6_takeSorted 5 = .ok (.getfield 38, 3) := by decide +kernel
theorem dX6_takeSorted_8 : decode cX6_takeSorted 8 = .ok (.invokevirtual 99, 3) := by decide +kernel
theorem dX6_takeSorted_11 : decode cX6_takeSorted 11 = .ok (.ifCond .eq 16, 3) := by decide +kernel
theorem dX6_takeSorted_14 : decode cX6_takeSorted 14 = .ok (.aload_n 0, 1) := by decide +kernel
theorem dX6_takeSorted_15 : decode cX6_takeSorted 15 = .ok (.getfield 21, 3) := by decide +kernel
theorem dX6_takeSorted_18 : decode cX6_takeSorted 18 = .ok (.getfield 123, 3) := by decide +kernel
theorem dX6_takeSorted_21 : decode cX6_takeSorted 21 = .ok (.aload_n 0, 1) := by decide +kernel
theorem dX6_takeSorted_22 : decode cX6_takeSorted 22 = .ok (.getfield 38, 3) := by decide +kernel
theorem dX6_takeSorted_25 : decode cX6_takeSorted 25 = .ok (.iconst 1, 1) := by decide +kernel
theorem dX6_takeSorted_26 : decode cX6_takeSorted 26 = .ok (.bastore, 1) := by decide +kernel
theorem dX6_takeSorted_27 : decode cX6_takeSorted 27 = .ok (.aload_n 0, 1) := by decide +kernel
theorem dX6_takeSorted_28 : decode cX6_takeSorted 28 = .ok (.iconst 3, 1) := by decide +kernel
theorem dX6_takeSorted_29 : decode cX6_takeSorted 29 = .ok (.putfield 35, 3) := by decide +kernel
theorem dX6_takeSorted_32 : decode cX6_takeSorted 32 = .ok (.iconst 0, 1) := by decide +kernel
theorem dX6_takeSorted_33 : decode cX6_takeSorted 33 = .ok (.ireturn, 1) := by decide +kernel
theorem dX6_takeClosing_0 : decode cX6_takeClosing 0 = .ok (.aload_n 0, 1) := by decide +kernel
theorem dX6_takeClosing_1 : decode cX6_takeClosing 1 = .ok (.aload_n 0, 1) := by decide +kernel
theorem dX6_takeClosing_2 : decode cX6_takeClosing 2 = .ok (.getfield 21, 3) := by decide +kernel
theorem dX6_takeClosing_5 : decode cX6_takeClosing 5 = .ok (.aload_n 0, 1) := by decide +kernel
theorem dX6_takeClosing_6 : decode cX6_takeClosing 6 = .ok (.getfield 38, 3) := by decide +kernel
theorem dX6_takeClosing_9 : decode cX6_takeClosing 9 = .ok (.invokevirtual 99, 3) := by decide +kernel
theorem dX6_takeClosing_12 : decode cX6_takeClosing 12 = .ok (.ifCond .eq 18, 3) := by decide +kernel
theorem dX6_takeClosing_15 : decode cX6_takeClosing 15 = .ok (.aload_n 0, 1) := by decide +kernel
theorem dX6_takeClosing_16 : decode cX6_takeClosing 16 = .ok (.getfield 21, 3) := by decide +kernel
theorem dX6_takeClosing_19 : decode cX6_takeClosing 19 = .ok (.getfield 126, 3) := by decide +kernel
theorem dX6_takeClosing_22 : decode cX6_takeClosing 22 = .ok (.aload_n 0, 1) := by decide +kernel
theorem dX6_takeClosing_23 : decode cX6_takeClosing 23 = .ok (.getfield 38, 3) := by decide +kernel
theorem dX6_takeClosing_26 : decode cX6_takeClosing 26 = .ok (.iaload, 1) := by decide +kernel
theorem dX6_takeClosing_27 : decode cX6_takeClosing 27 = .ok (.goto 4, 3) := by decide +kernel
theorem dX6_takeClosing_30 : decode cX6_takeClosing 30 = .ok (.iconst (-1), 1) := by decide +kernel
theorem dX6_takeClosing_31 : decode cX6_takeClosing 31 = .ok (.putfield 38, 3) := by decide +kernel
theorem dX6_takeClosing_34 : decode cX6_takeClosing 34 = .ok (.aload_n 0, 1) := by decide +kernel
theorem dX6_takeClosing_35 : decode cX6_takeClosing 35 = .ok (.aload_n 0, 1) := by decide +kernel
theorem dX6_takeClosing_36 : decode cX6_takeClosing 36 = .ok (.getfield 38, 3) := by decide +kernel
theorem dX6_takeClosing_39 : decode cX6_takeClosing 39 = .ok (.iconst (-1), 1) := by decide +kernel
theorem dX6_takeClosing_40 : decode cX6_takeClosing 40 = .ok (.if_icmp .ne 7, 3) := by decide +kernel
theorem dX6_takeClosing_43 : decode cX6_takeClosing 43 = .ok (.iconst 5, 1) := by decide +kernel
theorem dX6_takeClosing_44 : decode cX6_takeClosing 44 = .ok (.goto 4, 3) := by decide +kernel
theorem dX6_takeClosing_47 : decode cX6_takeClosing 47 = .ok (.iconst 4, 1) := by decide +kernel
theorem dX6_takeClosing_48 : decode cX6_takeClosing 48 = .ok (.putfield 35, 3) := by decide +kernel
theorem dX6_takeClosing_51 : decode cX6_takeClosing 51 = .ok (.iconst 0, 1) := by decide +kernel
theorem dX6_takeClosing_52 : decode cX6_takeClosing 52 = .ok (.ireturn, 1) := by decide +kernel
theorem dX6_takeSign_0 : decode cX6_takeSign 0 = .ok (.aload_n 0, 1) := by decide +kernel
theorem dX6_takeSign_1 : decode cX6_takeSign 1 = .ok (.getfield 54, 3) := by decide +kernel
theorem dX6_takeSign_4 : decode cX6_takeSign 4 = .ok (.iload_n 1, 1) := by decide +kernel
theorem dX6_takeSign_5 : decode cX6_takeSign 5 = .ok (.if_icmp .eq 5, 3) := by decide +kernel
theorem dX6_takeSign_8 : decode cX6_takeSign 8 = .ok (.iconst 1, 1) := by decide +kernel
theorem dX6_takeSign_9 : decode cX6_takeSign 9 = .ok (.ireturn, 1) := by decide +kernel
theorem dX6_takeSign_10 : decode cX6_takeSign 10 = .ok (.aload_n 0, 1) := by decide +kernel
theorem dX6_takeSign_11 : decode cX6_takeSign 11 = .ok (.iload_n 2, 1) := by decide +kernel
theorem dX6_takeSign_12 : decode cX6_takeSign 12 = .ok (.putfield 35, 3) := by decide +kernel
theorem dX6_takeSign_15 : decode cX6_takeSign 15 = .ok (.iconst 0, 1) := by decide +kernel
theorem dX6_takeSign_16 : decode cX6_takeSign 16 = .ok (.ireturn, 1) := by decide +kernel
theorem dX6_isWord_0 : decode cX6_isWord 0 = .ok (.aload_n 0, 1) := by decide +kernel
theorem dX6_isWord_1 : decode cX6_isWord 1 = .ok (.getfield 54, 3) := by decide +kernel
theorem dX6_isWord_4 : decode cX6_isWord 4 = .ok (.bipush 97, 2) := by decide +kernel
theorem dX6_isWord_6 : decode cX6_isWord 6 = .ok (.if_icmp .ne 26, 3) := by decide +kernel
theorem dX6_isWord_9 : decode cX6_isWord 9 = .ok (.aload_n 0, 1) := by decide +kernel
theorem dX6_isWord_10 : decode cX6_isWord 10 = .ok (.getfield 12, 3) := by decide +kernel
theorem dX6_isWord_13 : decode cX6_isWord 13 = .ok (.aload_n 1, 1) := by decide +kernel
theorem dX6_isWord_14 : decode cX6_isWord 14 = .ok (.aload_n 0, 1) := by decide +kernel
theorem dX6_isWord_15 : decode cX6_isWord 15 = .ok (.getfield 51, 3) := by decide +kernel
theorem dX6_isWord_18 : decode cX6_isWord 18 = .ok (.aload_n 0, 1) := by decide +kernel
theorem dX6_isWord_19 : decode cX6_isWord 19 = .ok (.getfield 41, 3) := by decide +kernel
theorem dX6_isWord_22 : decode cX6_isWord 22 = .ok (.invokevirtual 129, 3) := by decide +kernel
theorem dX6_isWord_25 : decode cX6_isWord 25 = .ok (.ifCond .eq 7, 3) := by decide +kernel
theorem dX6_isWord_28 : decode cX6_isWord 28 = .ok (.iconst 1, 1) := by decide +kernel
theorem dX6_isWord_29 : decode cX6_isWord 29 = .ok (.goto 4, 3) := by decide +kernel
theorem dX6_isWord_32 : decode cX6_isWord 32 = .ok (.iconst 0, 1) := by decide +kernel
theorem dX6_isWord_33 : decode cX6_isWord 33 = .ok (.ireturn, 1) := by decide +kernel
theorem dX6_howOfWord_0 : decode cX6_howOfWord 0 = .ok (.aload_n 0, 1) := by decide +kernel
theorem dX6_howOfWord_1 : decode cX6_howOfWord 1 = .ok (.ldc 133, 2) := by decide +kernel
theorem dX6_howOfWord_3 : decode cX6_howOfWord 3 = .ok (.invokevirtual 82, 3) := by decide +kernel
theorem dX6_howOfWord_6 : decode cX6_howOfWord 6 = .ok (.ifCond .eq 5, 3) := by decide +kernel
theorem dX6_howOfWord_9 : decode cX6_howOfWord 9 = .ok (.iconst 0, 1) := by decide +kernel
theorem dX6_howOfWord_10 : decode cX6_howOfWord 10 = .ok (.ireturn, 1) := by decide +kernel
theorem dX6_howOfWord_11 : decode cX6_howOfWord 11 = .ok (.aload_n 0, 1) := by decide +kernel
theorem dX6_howOfWord_12 : decode cX6_howOfWord 12 = .ok (.ldc 135, 2) := by decide +kernel
theorem dX6_howOfWord_14 : decode cX6_howOfWord 14 = .ok (.invokevirtual 82, 3) := by decide +kernel
theorem dX6_howOfWord_17 : decode cX6_howOfWord 17 = .ok (.ifCond .eq 5, 3) := by decide +kernel
theorem dX6_howOfWord_20 : decode cX6_howOfWord 20 = .ok (.iconst 1, 1) := by decide +kernel
theorem dX6_howOfWord_21 : decode cX6_howOfWord 21 = .ok (.ireturn, 1) := by decide +kernel
theorem dX6_howOfWord_22 : decode cX6_howOfWord 22 = .ok (.aload_n 0, 1) := by decide +kernel
theorem dX6_howOfWord_23 : decode cX6_howOfWord 23 = .ok (.ldc 137, 2) := by decide +kernel
theorem dX6_howOfWord_25 : decode cX6_howOfWord 25 = .ok (.invokevirtual 82, 3) := by decide +kernel
theorem dX6_howOfWord_28 : decode cX6_howOfWord 28 = .ok (.ifCond .eq 5, 3) := by decide +kernel
theorem dX6_howOfWord_31 : decode cX6_howOfWord 31 = .ok (.iconst 2, 1) := by decide +kernel
theorem dX6_howOfWord_32 : decode cX6_howOfWord 32 = .ok (.ireturn, 1) := by decide +kernel
theorem dX6_howOfWord_33 : decode cX6_howOfWord 33 = .ok (.aload_n 0, 1) := by decide +kernel
theorem dX6_howOfWord_34 : decode cX6_howOfWord 34 = .ok (.ldc 139, 2) := by decide +kernel
theorem dX6_howOfWord_36 : decode cX6_howOfWord 36 = .ok (.invokevirtual 82, 3) := by decide +kernel
theorem dX6_howOfWord_39 : decode cX6_howOfWord 39 = .ok (.ifCond .eq 7, 3) := by decide +kernel
theorem dX6_howOfWord_42 : decode cX6_howOfWord 42 = .ok (.iconst 3, 1) := by decide +kernel
theorem dX6_howOfWord_43 : decode cX6_howOfWord 43 = .ok (.goto 4, 3) := by decide +kernel
theorem dX6_howOfWord_46 : decode cX6_howOfWord 46 = .ok (.iconst (-1), 1) := by decide +kernel
theorem dX6_howOfWord_47 : decode cX6_howOfWord 47 = .ok (.ireturn, 1) := by decide +kernel
theorem dX7_init_0 : decode cX7_init 0 = .ok (.aload_n 0, 1) := by decide +kernel
theorem dX7_init_1 : decode cX7_init 1 = .ok (.invokespecial 3, 3) := by decide +kernel
theorem dX7_init_4 : decode cX7_init 4 = .ok (.iconst 0, 1) := by decide +kernel
theorem dX7_init_5 : decode cX7_init 5 = .ok (.iload_n 1, 1) := by decide +kernel
theorem dX7_init_6 : decode cX7_init 6 = .ok (.invokestatic 9, 3) := by decide +kernel
theorem dX7_init_9 : decode cX7_init 9 = .ok (.istore_n 2, 1) := by decide +kernel
theorem dX7_init_10 : decode cX7_init 10 = .ok (.aload_n 0, 1) := by decide +kernel
theorem dX7_init_11 : decode cX7_init 11 = .ok (.iload_n 2, 1) := by decide +kernel
theorem dX7_init_12 : decode cX7_init 12 = .ok (.newarray .int, 2) := by decide +kernel
theorem dX7_init_14 : decode cX7_init 14 = .ok (.putfield 15, 3) := by decide +kernel
theorem dX7_init_17 : decode cX7_init 17 = .ok (.aload_n 0, 1) := by decide +kernel
theorem dX7_init_18 : decode cX7_init 18 = .ok (.iload_n 2, 1) := by decide +kernel
theorem dX7_init_19 : decode cX7_init 19 = .ok (.newarray .int, 2) := by decide +kernel
theorem dX7_init_21 : decode cX7_init 21 = .ok (.putfield 21, 3) := by decide +kernel
theorem dX7_init_24 : decode cX7_init 24 = .ok (.aload_n 0, 1) := by decide +kernel
theorem dX7_init_25 : decode cX7_init 25 = .ok (.iload_n 2, 1) := by decide +kernel
theorem dX7_init_26 : decode cX7_init 26 = .ok (.newarray .int, 2) := by decide +kernel
theorem dX7_init_28 : decode cX7_init 28 = .ok (.putfield 24, 3) := by decide +kernel
theorem dX7_init_31 : decode cX7_init 31 = .ok (.aload_n 0, 1) := by decide +kernel
theorem dX7_init_32 : decode cX7_init 32 = .ok (.iload_n 2, 1) := by decide +kernel
theorem dX7_init_33 : decode cX7_init 33 = .ok (.newarray .int, 2) := by decide +kernel
theorem dX7_init_35 : decode cX7_init 35 = .ok (.putfield 27, 3) := by decide +kernel
theorem dX7_init_38 : decode cX7_init 38 = .ok (.aload_n 0, 1) := by decide +kernel
theorem dX7_init_39 : decode cX7_init 39 = .ok (.iload_n 2, 1) := by decide +kernel
theorem dX7_init_40 : decode cX7_init 40 = .ok (.newarray .int, 2) := by decide +kernel
theorem dX7_init_42 : decode cX7_init 42 = .ok (.putfield 30, 3) := by decide +kernel
theorem dX7_init_45 : decode cX7_init 45 = .ok (.return_, 1) := by decide +kernel
theorem dX7_put_0 : decode cX7_put 0 = .ok (.aload_n 0, 1) := by decide +kernel
theorem dX7_put_1 : decode cX7_put 1 = .ok (.getfield 15, 3) := by decide +kernel
theorem dX7_put_4 : decode cX7_put 4 = .ok (.iload_n 1, 1) := by decide +kernel
theorem dX7_put_5 : decode cX7_put 5 = .ok (.iload_n 2, 1) := by decide +kernel
theorem dX7_put_6 : decode cX7_put 6 = .ok (.iastore, 1) := by decide +kernel
theorem dX7_put_7 : decode cX7_put 7 = .ok (.aload_n 0, 1) := by decide +kernel
theorem dX7_put_8 : decode cX7_put 8 = .ok (.getfield 21, 3) := by decide +kernel
theorem dX7_put_11 : decode cX7_put 11 = .ok (.iload_n 1, 1) := by decide +kernel
theorem dX7_put_12 : decode cX7_put 12 = .ok (.iload_n 3, 1) := by decide +kernel
theorem dX7_put_13 : decode cX7_put 13 = .ok (.iastore, 1) := by decide +kernel
theorem dX7_put_14 : decode cX7_put 14 = .ok (.aload_n 0, 1) := by decide +kernel
theorem dX7_put_15 : decode cX7_put 15 = .ok (.getfield 24, 3) := by decide +kernel
theorem dX7_put_18 : decode cX7_put 18 = .ok (.iload_n 1, 1) := by decide +kernel
theorem dX7_put_19 : decode cX7_put 19 = .ok (.iload 4, 2) := by decide +kernel
theorem dX7_put_21 : decode cX7_put 21 = .ok (.iastore, 1) := by decide +kernel
theorem dX7_put_22 : decode cX7_put 22 = .ok (.aload_n 0, 1) := by decide +kernel
theorem dX7_put_23 : decode cX7_put 23 = .ok (.getfield 27, 3) := by decide +kernel
theorem dX7_put_26 : decode cX7_put 26 = .ok (.iload_n 1, 1) := by decide +kernel
theorem dX7_put_27 : decode cX7_put 27 = .ok (.iload 5, 2) := by decide +kernel
theorem dX7_put_29 : decode cX7_put 29 = .ok (.iastore, 1) := by decide +kernel
theorem dX7_put_30 : decode cX7_put 30 = .ok (.return_, 1) := by decide +kernel
theorem dX7_tell_0 : decode cX7_tell 0 = .ok (.iload_n 2, 1) := by decide +kernel
theorem dX7_tell_1 : decode cX7_tell 1 = .ok (.tableswitch 96 0 5 #[39, 46, 53, 60, 67, 74], 39) := by decide +kernel
theorem dX7_tell_40 : decode cX7_tell 40 = .ok (.aload_n 0, 1) := by decide +kernel
theorem dX7_tell_41 : decode cX7_tell 41 = .ok (.getfield 15, 3) := by decide +kernel
theorem dX7_tell_44 : decode cX7_tell 44 = .ok (.iload_n 1, 1) := by decide +kernel
theorem dX7_tell_45 : decode cX7_tell 45 = .ok (.iaload, 1) := by decide +kernel
theorem dX7_tell_46 : decode cX7_tell 46 = .ok (.ireturn, 1) := by decide +kernel
theorem dX7_tell_47 : decode cX7_tell 47 = .ok (.aload_n 0, 1) := by decide +kernel
theorem dX7_tell_48 : decode cX7_tell 48 = .ok (.getfield 21, 3) := by decide +kernel
theorem dX7_tell_51 : decode cX7_tell 51 = .ok (.iload_n 1, 1) := by decide +kernel
theorem dX7_tell_52 : decode cX7_tell 52 = .ok (.iaload, 1) := by decide +kernel
theorem dX7_tell_53 : decode cX7_tell 53 = .ok (.ireturn, 1) := by decide +kernel
theorem dX7_tell_54 : decode cX7_tell 54 = .ok (.aload_n 0, 1) := by decide +kernel
theorem dX7_tell_55 : decode cX7_tell 55 = .ok (.getfield 24, 3) := by decide +kernel
theorem dX7_tell_58 : decode cX7_tell 58 = .ok (.iload_n 1, 1) := by decide +kernel
theorem dX7_tell_59 : decode cX7_tell 59 = .ok (.iaload, 1) := by decide +kernel
theorem dX7_tell_60 : decode cX7_tell 60 = .ok (.ireturn, 1) := by decide +kernel
theorem dX7_tell_61 : decode cX7_tell 61 = .ok (.aload_n 0, 1) := by decide +kernel
theorem dX7_tell_62 : decode cX7_tell 62 = .ok (.getfield 27, 3) := by decide +kernel
theorem dX7_tell_65 : decode cX7_tell 65 = .ok (.iload_n 1, 1) := by decide +kernel
theorem dX7_tell_66 : decode cX7_tell 66 = .ok (.iaload, 1) := by decide +kernel
theorem dX7_tell_67 : decode cX7_tell 67 = .ok (.ireturn, 1) := by decide +kernel
theorem dX7_tell_68 : decode cX7_tell 68 = .ok (.aload_n 0, 1) := by decide +kernel
theorem dX7_tell_69 : decode cX7_tell 69 = .ok (.getfield 30, 3) := by decide +kernel
theorem dX7_tell_72 : decode cX7_tell 72 = .ok (.iload_n 1, 1) := by decide +kernel
theorem dX7_tell_73 : decode cX7_tell 73 = .ok (.iaload, 1) := by decide +kernel
theorem dX7_tell_74 : decode cX7_tell 74 = .ok (.ireturn, 1) := by decide +kernel
theorem dX7_tell_75 : decode cX7_tell 75 = .ok (.aload_n 0, 1) := by decide +kernel
theorem dX7_tell_76 : decode cX7_tell 76 = .ok (.getfield 30, 3) := by decide +kernel
theorem dX7_tell_79 : decode cX7_tell 79 = .ok (.iload_n 1, 1) := by decide +kernel
theorem dX7_tell_80 : decode cX7_tell 80 = .ok (.iaload, 1) := by decide +kernel
theorem dX7_tell_81 : decode cX7_tell 81 = .ok (.aload_n 0, 1) := by decide +kernel
theorem dX7_tell_82 : decode cX7_tell 82 = .ok (.getfield 24, 3) := by decide +kernel
theorem dX7_tell_85 : decode cX7_tell 85 = .ok (.iload_n 1, 1) := by decide +kernel
theorem dX7_tell_86 : decode cX7_tell 86 = .ok (.iaload, 1) := by decide +kernel
theorem dX7_tell_87 : decode cX7_tell 87 = .ok (.aload_n 0, 1) := by decide +kernel
theorem dX7_tell_88 : decode cX7_tell 88 = .ok (.getfield 27, 3) := by decide +kernel
theorem dX7_tell_91 : decode cX7_tell 91 = .ok (.iload_n 1, 1) := by decide +kernel
theorem dX7_tell_92 : decode cX7_tell 92 = .ok (.iaload, 1) := by decide +kernel
theorem dX7_tell_93 : decode cX7_tell 93 = .ok (.invokestatic 33, 3) := by decide +kernel
theorem dX7_tell_96 : decode cX7_tell 96 = .ok (.ireturn, 1) := by decide +kernel
theorem dX7_tell_97 : decode cX7_tell 97 = .ok (.iconst (-1), 1) := by decide +kernel
theorem dX7_tell_98 : decode cX7_tell 98 = .ok (.ireturn, 1) := by decide +kernel
theorem dX7_holds_0 : decode cX7_holds 0 = .ok (.iload_n 2, 1) := by decide +kernel
theorem dX7_holds_1 : decode cX7_holds 1 = .ok (.aload_n 0, 1) := by decide +kernel
theorem dX7_holds_2 : decode cX7_holds 2 = .ok (.getfield 15, 3) := by decide +kernel
theorem dX7_holds_5 : decode cX7_holds 5 = .ok (.iload_n 1, 1) := by decide +kernel
theorem dX7_holds_6 : decode cX7_holds 6 = .ok (.iaload, 1) := by decide +kernel
theorem dX7_holds_7 : decode cX7_holds 7 = .ok (.if_icmp .lt 51, 3) := by decide +kernel
theorem dX7_holds_10 : decode cX7_holds 10 = .ok (.iload_n 2, 1) := by decide +kernel
theorem dX7_holds_11 : decode cX7_holds 11 = .ok (.aload_n 0, 1) := by decide +kernel
theorem dX7_holds_12 : decode cX7_holds 12 = .ok (.getfield 15, 3) := by decide +kernel
theorem dX7_holds_15 : decode cX7_holds 15 = .ok (.iload_n 1, 1) := by decide +kernel
theorem dX7_holds_16 : decode cX7_holds 16 = .ok (.iaload, 1) := by decide +kernel
theorem dX7_holds_17 : decode cX7_holds 17 = .ok (.aload_n 0, 1) := by decide +kernel
theorem dX7_holds_18 : decode cX7_holds 18 = .ok (.getfield 24, 3) := by decide +kernel
theorem dX7_holds_21 : decode cX7_holds 21 = .ok (.iload_n 1, 1) := by decide +kernel
theorem dX7_holds_22 : decode cX7_holds 22 = .ok (.iaload, 1) := by decide +kernel
theorem dX7_holds_23 : decode cX7_holds 23 = .ok (.iadd, 1) := by decide +kernel
theorem dX7_holds_24 : decode cX7_holds 24 = .ok (.if_icmp .ge 34, 3) := by decide +kernel
theorem dX7_holds_27 : decode cX7_holds 27 = .ok (.iload_n 3, 1) := by decide +kernel
theorem dX7_holds_28 : decode cX7_holds 28 = .ok (.aload_n 0, 1) := by decide +kernel
theorem dX7_holds_29 : decode cX7_holds 29 = .ok (.getfield 21, 3) := by decide +kernel
theorem dX7_holds_32 : decode cX7_holds 32 = .ok (.iload_n 1, 1) := by decide +kernel
theorem dX7_holds_33 : decode cX7_holds 33 = .ok (.iaload, 1) := by decide +kernel
theorem dX7_holds_34 : decode cX7_holds 34 = .ok (.if_icmp .lt 24, 3) := by decide +kernel
theorem dX7_holds_37 : decode cX7_holds 37 = .ok (.iload_n 3, 1) := by decide +kernel
theorem dX7_holds_38 : decode cX7_holds 38 = .ok (.aload_n 0, 1) := by decide +kernel
theorem dX7_holds_39 : decode cX7_holds 39 = .ok (.getfield 21, 3) := by decide +kernel
theorem dX7_holds_42 : decode cX7_holds 42 = .ok (.iload_n 1, 1) := by decide +kernel
theorem dX7_holds_43 : decode cX7_holds 43 = .ok (.iaload, 1) := by decide +kernel
theorem dX7_holds_44 : decode cX7_holds 44 = .ok (.aload_n 0, 1) := by decide +kernel
theorem dX7_holds_45 : decode cX7_holds 45 = .ok (.getfield 27, 3) := by decide +kernel
theorem dX7_holds_48 : decode cX7_holds 48 = .ok (.iload_n 1, 1) := by decide +kernel
theorem dX7_holds_49 : decode cX7_holds 49 = .ok (.iaload, 1) := by decide +kernel
theorem dX7_holds_50 : decode cX7_holds 50 = .ok (.iadd, 1) := by decide +kernel
theorem dX7_holds_51 : decode cX7_holds 51 = .ok (.if_icmp .ge 7, 3) := by decide +kernel
theorem dX7_holds_54 : decode cX7_holds 54 = .ok (.iconst 1, 1) := by decide +kernel
theorem dX7_holds_55 : decode cX7_holds 55 = .ok (.goto 4, 3) := by decide +kernel
theorem dX7_holds_58 : decode cX7_holds 58 = .ok (.iconst 0, 1) := by decide +kernel
theorem dX7_holds_59 : decode cX7_holds 59 = .ok (.ireturn, 1) := by decide +kernel
theorem dX7_distance_0 : decode cX7_distance 0 = .ok (.aload_n 0, 1) := by decide +kernel
theorem dX7_distance_1 : decode cX7_distance 1 = .ok (.getfield 15, 3) := by decide +kernel
theorem dX7_distance_4 : decode cX7_distance 4 = .ok (.iload_n 1, 1) := by decide +kernel
theorem dX7_distance_5 : decode cX7_distance 5 = .ok (.iaload, 1) := by decide +kernel
theorem dX7_distance_6 : decode cX7_distance 6 = .ok (.aload_n 0, 1) := by decide +kernel
theorem dX7_distance_7 : decode cX7_distance 7 = .ok (.getfield 24, 3) := by decide +kernel
theorem dX7_distance_10 : decode cX7_distance 10 = .ok (.iload_n 1, 1) := by decide +kernel
theorem dX7_distance_11 : decode cX7_distance 11 = .ok (.iaload, 1) := by decide +kernel
theorem dX7_distance_12 : decode cX7_distance 12 = .ok (.iadd, 1) := by decide +kernel
theorem dX7_distance_13 : decode cX7_distance 13 = .ok (.aload_n 2, 1) := by decide +kernel
theorem dX7_distance_14 : decode cX7_distance 14 = .ok (.getfield 15, 3) := by decide +kernel
theorem dX7_distance_17 : decode cX7_distance 17 = .ok (.iload_n 3, 1) := by decide +kernel
theorem dX7_distance_18 : decode cX7_distance 18 = .ok (.iaload, 1) := by decide +kernel
theorem dX7_distance_19 : decode cX7_distance 19 = .ok (.isub, 1) := by decide +kernel
theorem dX7_distance_20 : decode cX7_distance 20 = .ok (.aload_n 2, 1) := by decide +kernel
theorem dX7_distance_21 : decode cX7_distance 21 = .ok (.getfield 24, 3) := by decide +kernel
theorem dX7_distance_24 : decode cX7_distance 24 = .ok (.iload_n 3, 1) := by decide +kernel
theorem dX7_distance_25 : decode cX7_distance 25 = .ok (.iaload, 1) := by decide +kernel
theorem dX7_distance_26 : decode cX7_distance 26 = .ok (.isub, 1) := by decide +kernel
theorem dX7_distance_27 : decode cX7_distance 27 = .ok (.istore 4, 2) := by decide +kernel
theorem dX7_distance_29 : decode cX7_distance 29 = .ok (.aload_n 0, 1) := by decide +kernel
theorem dX7_distance_30 : decode cX7_distance 30 = .ok (.getfield 21, 3) := by decide +kernel
theorem dX7_distance_33 : decode cX7_distance 33 = .ok (.iload_n 1, 1) := by decide +kernel
theorem dX7_distance_34 : decode cX7_distance 34 = .ok (.iaload, 1) := by decide +kernel
theorem dX7_distance_35 : decode cX7_distance 35 = .ok (.aload_n 0, 1) := by decide +kernel
theorem dX7_distance_36 : decode cX7_distance 36 = .ok (.getfield 27, 3) := by decide +kernel
theorem dX7_distance_39 : decode cX7_distance 39 = .ok (.iload_n 1, 1) := by decide +kernel
theorem dX7_distance_40 : decode cX7_distance 40 = .ok (.iaload, 1) := by decide +kernel
theorem dX7_distance_41 : decode cX7_distance 41 = .ok (.iadd, 1) := by decide +kernel
theorem dX7_distance_42 : decode cX7_distance 42 = .ok (.aload_n 2, 1) := by decide +kernel
theorem dX7_distance_43 : decode cX7_distance 43 = .ok (.getfield 21, 3) := by decide +kernel
theorem dX7_distance_46 : decode cX7_distance 46 = .ok (.iload_n 3, 1) := by decide +kernel
theorem dX7_distance_47 : decode cX7_distance 47 = .ok (.iaload, 1) := by decide +kernel
theorem dX7_distance_48 : decode cX7_distance 48 = .ok (.isub, 1) := by decide +kernel
theorem dX7_distance_49 : decode cX7_distance 49 = .ok (.aload_n 2, 1) := by decide +kernel
theorem dX7_distance_50 : decode cX7_distance 50 = .ok (.getfield 27, 3) := by decide +kernel
theorem dX7_distance_53 : decode cX7_distance 53 = .ok (.iload_n 3, 1) := by decide +kernel
theorem dX7_distance_54 : decode cX7_distance 54 = .ok (.iaload, 1) := by decide +kernel
theorem dX7_distance_55 : decode cX7_distance 55 = .ok (.isub, 1) := by decide +kernel
theorem dX7_distance_56 : decode cX7_distance 56 = .ok (.istore 5, 2) := by decide +kernel
theorem dX7_distance_58 : decode cX7_distance 58 = .ok (.aload_n 0, 1) := by decide +kernel
theorem dX7_distance_59 : decode cX7_distance 59 = .ok (.getfield 15, 3) := by decide +kernel
theorem dX7_distance_62 : decode cX7_distance 62 = .ok (.iload_n 1, 1) := by decide +kernel
theorem dX7_distance_63 : decode cX7_distance 63 = .ok (.iaload, 1) := by decide +kernel
theorem dX7_distance_64 : decode cX7_distance 64 = .ok (.aload_n 2, 1) := by decide +kernel
theorem dX7_distance_65 : decode cX7_distance 65 = .ok (.getfield 15, 3) := by decide +kernel
theorem dX7_distance_68 : decode cX7_distance 68 = .ok (.iload_n 3, 1) := by decide +kernel
theorem dX7_distance_69 : decode cX7_distance 69 = .ok (.iaload, 1) := by decide +kernel
theorem dX7_distance_70 : decode cX7_distance 70 = .ok (.isub, 1) := by decide +kernel
theorem dX7_distance_71 : decode cX7_distance 71 = .ok (.invokestatic 37, 3) := by decide +kernel
theorem dX7_distance_74 : decode cX7_distance 74 = .ok (.aload_n 0, 1) := by decide +kernel
theorem dX7_distance_75 : decode cX7_distance 75 = .ok (.getfield 21, 3) := by decide +kernel
theorem dX7_distance_78 : decode cX7_distance 78 = .ok (.iload_n 1, 1) := by decide +kernel
theorem dX7_distance_79 : decode cX7_distance 79 = .ok (.iaload, 1) := by decide +kernel
theorem dX7_distance_80 : decode cX7_distance 80 = .ok (.aload_n 2, 1) := by decide +kernel
theorem dX7_distance_81 : decode cX7_distance 81 = .ok (.getfield 21, 3) := by decide +kernel
theorem dX7_distance_84 : decode cX7_distance 84 = .ok (.iload_n 3, 1) := by decide +kernel
theorem dX7_distance_85 : decode cX7_distance 85 = .ok (.iaload, 1) := by decide +kernel
theorem dX7_distance_86 : decode cX7_distance 86 = .ok (.isub, 1) := by decide +kernel
theorem dX7_distance_87 : decode cX7_distance 87 = .ok (.invokestatic 37, 3) := by decide +kernel
theorem dX7_distance_90 : decode cX7_distance 90 = .ok (.iadd, 1) := by decide +kernel
theorem dX7_distance_91 : decode cX7_distance 91 = .ok (.iload 4, 2) := by decide +kernel
theorem dX7_distance_93 : decode cX7_distance 93 = .ok (.invokestatic 37, 3) := by decide +kernel
theorem dX7_distance_96 : decode cX7_distance 96 = .ok (.iadd, 1) := by decide +kernel
theorem dX7_distance_97 : decode cX7_distance 97 = .ok (.iload 5, 2) := by decide +kernel
theorem dX7_distance_99 : decode cX7_distance 99 = .ok (.invokestatic 37, 3) := by decide +kernel
theorem dX7_distance_102 : decode cX7_distance 102 = .ok (.iadd, 1) := by decide +kernel
theorem dX7_distance_103 : decode cX7_distance 103 = .ok (.ireturn, 1) := by decide +kernel
theorem dX8_init_0 : decode cX8_init 0 = .ok (.aload_n 0, 1) := by decide +kernel
theorem dX8_init_1 : decode cX8_init 1 = .ok (.invokespecial 3, 3) := by decide +kernel
theorem dX8_init_4 : decode cX8_init 4 = .ok (.aload_n 0, 1) := by decide +kernel
theorem dX8_init_5 : decode cX8_init 5 = .ok (.new 9, 3) := by decide +kernel
theorem dX8_init_8 : decode cX8_init 8 = .ok (.dup, 1) := by decide +kernel
theorem dX8_init_9 : decode cX8_init 9 = .ok (.invokespecial 11, 3) := by decide +kernel
theorem dX8_init_12 : decode cX8_init 12 = .ok (.putfield 12, 3) := by decide +kernel
theorem dX8_init_15 : decode cX8_init 15 = .ok (.aload_n 0, 1) := by decide +kernel
theorem dX8_init_16 : decode cX8_init 16 = .ok (.bipush 72, 2) := by decide +kernel
theorem dX8_init_18 : decode cX8_init 18 = .ok (.newarray .int, 2) := by decide +kernel
theorem dX8_init_20 : decode cX8_init 20 = .ok (.putfield 18, 3) := by decide +kernel
theorem dX8_init_23 : decode cX8_init 23 = .ok (.aload_n 0, 1) := by decide +kernel
theorem dX8_init_24 : decode cX8_init 24 = .ok (.bipush 9, 2) := by decide +kernel
theorem dX8_init_26 : decode cX8_init 26 = .ok (.newarray .int, 2) := by decide +kernel
theorem dX8_init_28 : decode cX8_init 28 = .ok (.putfield 22, 3) := by decide +kernel
theorem dX8_init_31 : decode cX8_init 31 = .ok (.aload_n 0, 1) := by decide +kernel
theorem dX8_init_32 : decode cX8_init 32 = .ok (.bipush 9, 2) := by decide +kernel
theorem dX8_init_34 : decode cX8_init 34 = .ok (.newarray .int, 2) := by decide +kernel
theorem dX8_init_36 : decode cX8_init 36 = .ok (.putfield 25, 3) := by decide +kernel
theorem dX8_init_39 : decode cX8_init 39 = .ok (.return_, 1) := by decide +kernel
theorem dX8_lay_0 : decode cX8_lay 0 = .ok (.aload_n 1, 1) := by decide +kernel
theorem dX8_lay_1 : decode cX8_lay 1 = .ok (.getfield 28, 3) := by decide +kernel
theorem dX8_lay_4 : decode cX8_lay 4 = .ok (.istore_n 2, 1) := by decide +kernel
theorem dX8_lay_5 : decode cX8_lay 5 = .ok (.iload_n 2, 1) := by decide +kernel
theorem dX8_lay_6 : decode cX8_lay 6 = .ok (.iconst 1, 1) := by decide +kernel
theorem dX8_lay_7 : decode cX8_lay 7 = .ok (.isub, 1) := by decide +kernel
theorem dX8_lay_8 : decode cX8_lay 8 = .ok (.istore_n 3, 1) := by decide +kernel
theorem dX8_lay_9 : decode cX8_lay 9 = .ok (.iload_n 3, 1) := by decide +kernel
theorem dX8_lay_10 : decode cX8_lay 10 = .ok (.ifCond .lt 45, 3) := by decide +kernel
theorem dX8_lay_13 : decode cX8_lay 13 = .ok (.iload_n 3, 1) := by decide +kernel
theorem dX8_lay_14 : decode cX8_lay 14 = .ok (.iconst 1, 1) := by decide +kernel
theorem dX8_lay_15 : decode cX8_lay 15 = .ok (.iadd, 1) := by decide +kernel
theorem dX8_lay_16 : decode cX8_lay 16 = .ok (.istore 4, 2) := by decide +kernel
theorem dX8_lay_18 : decode cX8_lay 18 = .ok (.iload 4, 2) := by decide +kernel
theorem dX8_lay_20 : decode cX8_lay 20 = .ok (.iload_n 2, 1) := by decide +kernel
theorem dX8_lay_21 : decode cX8_lay 21 = .ok (.if_icmp .gt 28, 3) := by decide +kernel
theorem dX8_lay_24 : decode cX8_lay 24 = .ok (.aload_n 0, 1) := by decide +kernel
theorem dX8_lay_25 : decode cX8_lay 25 = .ok (.getfield 18, 3) := by decide +kernel
theorem dX8_lay_28 : decode cX8_lay 28 = .ok (.iload_n 3, 1) := by decide +kernel
theorem dX8_lay_29 : decode cX8_lay 29 = .ok (.bipush 9, 2) := by decide +kernel
theorem dX8_lay_31 : decode cX8_lay 31 = .ok (.imul, 1) := by decide +kernel
theorem dX8_lay_32 : decode cX8_lay 32 = .ok (.iload 4, 2) := by decide +kernel
theorem dX8_lay_34 : decode cX8_lay 34 = .ok (.iadd, 1) := by decide +kernel
theorem dX8_lay_35 : decode cX8_lay 35 = .ok (.aload_n 1, 1) := by decide +kernel
theorem dX8_lay_36 : decode cX8_lay 36 = .ok (.iload_n 3, 1) := by decide +kernel
theorem dX8_lay_37 : decode cX8_lay 37 = .ok (.iload 4, 2) := by decide +kernel
theorem dX8_lay_39 : decode cX8_lay 39 = .ok (.invokestatic 34, 3) := by decide +kernel
theorem dX8_lay_42 : decode cX8_lay 42 = .ok (.iastore, 1) := by decide +kernel
theorem dX8_lay_43 : decode cX8_lay 43 = .ok (.iinc 4 1, 3) := by decide +kernel
theorem dX8_lay_46 : decode cX8_lay 46 = .ok (.goto (-28), 3) := by decide +kernel
theorem dX8_lay_49 : decode cX8_lay 49 = .ok (.iinc 3 (-1), 3) := by decide +kernel
theorem dX8_lay_52 : decode cX8_lay 52 = .ok (.goto (-43), 3) := by decide +kernel
theorem dX8_lay_55 : decode cX8_lay 55 = .ok (.aload_n 0, 1) := by decide +kernel
theorem dX8_lay_56 : decode cX8_lay 56 = .ok (.iload_n 2, 1) := by decide +kernel
theorem dX8_lay_57 : decode cX8_lay 57 = .ok (.invokevirtual 38, 3) := by decide +kernel
theorem dX8_lay_60 : decode cX8_lay 60 = .ok (.aload_n 0, 1) := by decide +kernel
theorem dX8_lay_61 : decode cX8_lay 61 = .ok (.iload_n 2, 1) := by decide +kernel
theorem dX8_lay_62 : decode cX8_lay 62 = .ok (.invokevirtual 42, 3) := by decide +kernel
theorem dX8_lay_65 : decode cX8_lay 65 = .ok (.aload_n 0, 1) := by decide +kernel
theorem dX8_lay_66 : decode cX8_lay 66 = .ok (.getfield 12, 3) := by decide +kernel
theorem dX8_lay_69 : decode cX8_lay 69 = .ok (.iconst 0, 1) := by decide +kernel
theorem dX8_lay_70 : decode cX8_lay 70 = .ok (.putfield 45, 3) := by decide +kernel
theorem dX8_lay_73 : decode cX8_lay 73 = .ok (.iconst 0, 1) := by decide +kernel
theorem dX8_lay_74 : decode cX8_lay 74 = .ok (.istore_n 3, 1) := by decide +kernel
theorem dX8_lay_75 : decode cX8_lay 75 = .ok (.iconst 0, 1) := by decide +kernel
theorem dX8_lay_76 : decode cX8_lay 76 = .ok (.istore 4, 2) := by decide +kernel
theorem dX8_lay_78 : decode cX8_lay 78 = .ok (.iload 4, 2) := by decide +kernel
theorem dX8_lay_80 : decode cX8_lay 80 = .ok (.iload_n 2, 1) := by decide +kernel
theorem dX8_lay_81 : decode cX8_lay 81 = .ok (.if_icmp .ge 33, 3) := by decide +kernel
theorem dX8_lay_84 : decode cX8_lay 84 = .ok (.iload_n 3, 1) := by decide +kernel
theorem dX8_lay_85 : decode cX8_lay 85 = .ok (.iload_n 2, 1) := by decide +kernel
theorem dX8_lay_86 : decode cX8_lay 86 = .ok (.if_icmp .ge 28, 3) := by decide +kernel
theorem dX8_lay_89 : decode cX8_lay 89 = .ok (.aload_n 0, 1) := by decide +kernel
theorem dX8_lay_90 : decode cX8_lay 90 = .ok (.iload_n 3, 1) := by decide +kernel
theorem dX8_lay_91 : decode cX8_lay 91 = .ok (.iload_n 2, 1) := by decide +kernel
theorem dX8_lay_92 : decode cX8_lay 92 = .ok (.invokevirtual 47, 3) := by decide +kernel
theorem dX8_lay_95 : decode cX8_lay 95 = .ok (.istore 5, 2) := by decide +kernel
theorem dX8_lay_97 : decode cX8_lay 97 = .ok (.aload_n 0, 1) := by decide +kernel
theorem dX8_lay_98 : decode cX8_lay 98 = .ok (.aload_n 1, 1) := by decide +kernel
theorem dX8_lay_99 : decode cX8_lay 99 = .ok (.iload_n 3, 1) := by decide +kernel
theorem dX8_lay_100 : decode cX8_lay 100 = .ok (.iload 5, 2) := by decide +kernel
theorem dX8_lay_102 : decode cX8_lay 102 = .ok (.invokevirtual 51, 3) := by decide +kernel
theorem dX8_lay_105 : decode cX8_lay 105 = .ok (.iload 5, 2) := by decide +kernel
theorem dX8_lay_107 : decode cX8_lay 107 = .ok (.istore_n 3, 1) := by decide +kernel
theorem dX8_lay_108 : decode cX8_lay 108 = .ok (.iinc 4 1, 3) := by decide +kernel
theorem dX8_lay_111 : decode cX8_lay 111 = .ok (.goto (-33), 3) := by decide +kernel
theorem dX8_lay_114 : decode cX8_lay 114 = .ok (.return_, 1) := by decide +kernel
theorem dX8_worstOfRow_0 : decode cX8_worstOfRow 0 = .ok (.aload_n 0, 1) := by decide +kernel
theorem dX8_worstOfRow_1 : decode cX8_worstOfRow 1 = .ok (.iload_n 2, 1) := by decide +kernel
theorem dX8_worstOfRow_2 : decode cX8_worstOfRow 2 = .ok (.aload_n 0, 1) := by decide +kernel
theorem dX8_worstOfRow_3 : decode cX8_worstOfRow 3 = .ok (.getfield 55, 3) := by decide +kernel
theorem dX8_worstOfRow_6 : decode cX8_worstOfRow 6 = .ok (.iconst 0, 1) := by decide +kernel
theorem dX8_worstOfRow_7 : decode cX8_worstOfRow 7 = .ok (.aload_n 0, 1) := by decide +kernel
theorem dX8_worstOfRow_8 : decode cX8_worstOfRow 8 = .ok (.getfield 28, 3) := by decide +kernel
theorem dX8_worstOfRow_11 : decode cX8_worstOfRow 11 = .ok (.invokevirtual 58, 3) := by decide +kernel
theorem dX8_worstOfRow_14 : decode cX8_worstOfRow 14 = .ok (.aload_n 0, 1) := by decide +kernel
theorem dX8_worstOfRow_15 : decode cX8_worstOfRow 15 = .ok (.iload_n 1, 1) := by decide +kernel
theorem dX8_worstOfRow_16 : decode cX8_worstOfRow 16 = .ok (.aload_n 0, 1) := by decide +kernel
theorem dX8_worstOfRow_17 : decode cX8_worstOfRow 17 = .ok (.getfield 55, 3) := by decide +kernel
theorem dX8_worstOfRow_20 : decode cX8_worstOfRow 20 = .ok (.iconst 0, 1) := by decide +kernel
theorem dX8_worstOfRow_21 : decode cX8_worstOfRow 21 = .ok (.aload_n 0, 1) := by decide +kernel
theorem dX8_worstOfRow_22 : decode cX8_worstOfRow 22 = .ok (.getfield 28, 3) := by decide +kernel
theorem dX8_worstOfRow_25 : decode cX8_worstOfRow 25 = .ok (.invokevirtual 58, 3) := by decide +kernel
theorem dX8_worstOfRow_28 : decode cX8_worstOfRow 28 = .ok (.isub, 1) := by decide +kernel
theorem dX8_worstOfRow_29 : decode cX8_worstOfRow 29 = .ok (.istore_n 3, 1) := by decide +kernel
theorem dX8_worstOfRow_30 : decode cX8_worstOfRow 30 = .ok (.iconst 0, 1) := by decide +kernel
theorem dX8_worstOfRow_31 : decode cX8_worstOfRow 31 = .ok (.istore 4, 2) := by decide +kernel
theorem dX8_worstOfRow_33 : decode cX8_worstOfRow 33 = .ok (.iconst 0, 1) := by decide +kernel
theorem dX8_worstOfRow_34 : decode cX8_worstOfRow 34 = .ok (.istore 5, 2) := by decide +kernel
theorem dX8_worstOfRow_36 : decode cX8_worstOfRow 36 = .ok (.iload_n 1, 1) := by decide +kernel
theorem dX8_worstOfRow_37 : decode cX8_worstOfRow 37 = .ok (.istore 6, 2) := by decide +kernel
theorem dX8_worstOfRow_39 : decode cX8_worstOfRow 39 = .ok (.iload 6, 2) := by decide +kernel
theorem dX8_worstOfRow_41 : decode cX8_worstOfRow 41 = .ok (.iload_n 2, 1) := by decide +kernel
theorem dX8_worstOfRow_42 : decode cX8_worstOfRow 42 = .ok (.if_icmp .ge 52, 3) := by decide +kernel
theorem dX8_worstOfRow_45 : decode cX8_worstOfRow 45 = .ok (.aload_n 0, 1) := by decide +kernel
theorem dX8_worstOfRow_46 : decode cX8_worstOfRow 46 = .ok (.iload 6, 2) := by decide +kernel
theorem dX8_worstOfRow_48 : decode cX8_worstOfRow 48 = .ok (.iconst 1, 1) := by decide +kernel
theorem dX8_worstOfRow_49 : decode cX8_worstOfRow 49 = .ok (.iadd, 1) := by decide +kernel
theorem dX8_worstOfRow_50 : decode cX8_worstOfRow 50 = .ok (.aload_n 0, 1) := by decide +kernel
theorem dX8_worstOfRow_51 : decode cX8_worstOfRow 51 = .ok (.getfield 62, 3) := by decide +kernel
theorem dX8_worstOfRow_54 : decode cX8_worstOfRow 54 = .ok (.iload_n 1, 1) := by decide +kernel
theorem dX8_worstOfRow_55 : decode cX8_worstOfRow 55 = .ok (.iload_n 2, 1) := by decide +kernel
theorem dX8_worstOfRow_56 : decode cX8_worstOfRow 56 = .ok (.invokevirtual 58, 3) := by decide +kernel
theorem dX8_worstOfRow_59 : decode cX8_worstOfRow 59 = .ok (.istore 7, 2) := by decide +kernel
theorem dX8_worstOfRow_61 : decode cX8_worstOfRow 61 = .ok (.iload 4, 2) := by decide +kernel
theorem dX8_worstOfRow_63 : decode cX8_worstOfRow 63 = .ok (.aload_n 0, 1) := by decide +kernel
theorem dX8_worstOfRow_64 : decode cX8_worstOfRow 64 = .ok (.getfield 65, 3) := by decide +kernel
theorem dX8_worstOfRow_67 : decode cX8_worstOfRow 67 = .ok (.iload 6, 2) := by decide +kernel
theorem dX8_worstOfRow_69 : decode cX8_worstOfRow 69 = .ok (.iaload, 1) := by decide +kernel
theorem dX8_worstOfRow_70 : decode cX8_worstOfRow 70 = .ok (.iload 7, 2) := by decide +kernel
theorem dX8_worstOfRow_72 : decode cX8_worstOfRow 72 = .ok (.iload 5, 2) := by decide +kernel
theorem dX8_worstOfRow_74 : decode cX8_worstOfRow 74 = .ok (.isub, 1) := by decide +kernel
theorem dX8_worstOfRow_75 : decode cX8_worstOfRow 75 = .ok (.iload_n 3, 1) := by decide +kernel
theorem dX8_worstOfRow_76 : decode cX8_worstOfRow 76 = .ok (.invokestatic 68, 3) := by decide +kernel
theorem dX8_worstOfRow_79 : decode cX8_worstOfRow 79 = .ok (.invokestatic 72, 3) := by decide +kernel
theorem dX8_worstOfRow_82 : decode cX8_worstOfRow 82 = .ok (.istore 4, 2) := by decide +kernel
theorem dX8_worstOfRow_84 : decode cX8_worstOfRow 84 = .ok (.iload 7, 2) := by decide +kernel
theorem dX8_worstOfRow_86 : decode cX8_worstOfRow 86 = .ok (.istore 5, 2) := by decide +kernel
theorem dX8_worstOfRow_88 : decode cX8_worstOfRow 88 = .ok (.iinc 6 1, 3) := by decide +kernel
theorem dX8_worstOfRow_91 : decode cX8_worstOfRow 91 = .ok (.goto (-52), 3) := by decide +kernel
theorem dX8_worstOfRow_94 : decode cX8_worstOfRow 94 = .ok (.iload 4, 2) := by decide +kernel
theorem dX8_worstOfRow_96 : decode cX8_worstOfRow 96 = .ok (.ireturn, 1) := by decide +kernel
theorem dX8_findLeast_0 : decode cX8_findLeast 0 = .ok (.aload_n 0, 1) := by decide +kernel
theorem dX8_findLeast_1 : decode cX8_findLeast 1 = .ok (.getfield 22, 3) := by decide +kernel
theorem dX8_findLeast_4 : decode cX8_findLeast 4 = .ok (.iload_n 1, 1) := by decide +kernel
theorem dX8_findLeast_5 : decode cX8_findLeast 5 = .ok (.iconst 0, 1) := by decide +kernel
theorem dX8_findLeast_6 : decode cX8_findLeast 6 = .ok (.iastore, 1) := by decide +kernel
theorem dX8_findLeast_7 : decode cX8_findLeast 7 = .ok (.iload_n 1, 1) := by decide +kernel
theorem dX8_findLeast_8 : decode cX8_findLeast 8 = .ok (.iconst 1, 1) := by decide +kernel
theorem dX8_findLeast_9 : decode cX8_findLeast 9 = .ok (.isub, 1) := by decide +kernel
theorem dX8_findLeast_10 : decode cX8_findLeast 10 = .ok (.istore_n 2, 1) := by decide +kernel
theorem dX8_findLeast_11 : decode cX8_findLeast 11 = .ok (.iload_n 2, 1) := by decide +kernel
theorem dX8_findLeast_12 : decode cX8_findLeast 12 = .ok (.ifCond .lt 67, 3) := by decide +kernel
theorem dX8_findLeast_15 : decode cX8_findLeast 15 = .ok (.aload_n 0, 1) := by decide +kernel
theorem dX8_findLeast_16 : decode cX8_findLeast 16 = .ok (.getfield 22, 3) := by decide +kernel
theorem dX8_findLeast_19 : decode cX8_findLeast 19 = .ok (.iload_n 2, 1) := by decide +kernel
theorem dX8_findLeast_20 : decode cX8_findLeast 20 = .ok (.ldc 79, 2) := by decide +kernel
theorem dX8_findLeast_22 : decode cX8_findLeast 22 = .ok (.iastore, 1) := by decide +kernel
theorem dX8_findLeast_23 : decode cX8_findLeast 23 = .ok (.iload_n 2, 1) := by decide +kernel
theorem dX8_findLeast_24 : decode cX8_findLeast 24 = .ok (.iconst 1, 1) := by decide +kernel
theorem dX8_findLeast_25 : decode cX8_findLeast 25 = .ok (.iadd, 1) := by decide +kernel
theorem dX8_findLeast_26 : decode cX8_findLeast 26 = .ok (.istore_n 3, 1) := by decide +kernel
theorem dX8_findLeast_27 : decode cX8_findLeast 27 = .ok (.iload_n 3, 1) := by decide +kernel
theorem dX8_findLeast_28 : decode cX8_findLeast 28 = .ok (.iload_n 1, 1) := by decide +kernel
theorem dX8_findLeast_29 : decode cX8_findLeast 29 = .ok (.if_icmp .gt 44, 3) := by decide +kernel
theorem dX8_findLeast_32 : decode cX8_findLeast 32 = .ok (.aload_n 0, 1) := by decide +kernel
theorem dX8_findLeast_33 : decode cX8_findLeast 33 = .ok (.getfield 22, 3) := by decide +kernel
theorem dX8_findLeast_36 : decode cX8_findLeast 36 = .ok (.iload_n 2, 1) := by decide +kernel
theorem dX8_findLeast_37 : decode cX8_findLeast 37 = .ok (.aload_n 0, 1) := by decide +kernel
theorem dX8_findLeast_38 : decode cX8_findLeast 38 = .ok (.getfield 22, 3) := by decide +kernel
theorem dX8_findLeast_41 : decode cX8_findLeast 41 = .ok (.iload_n 2, 1) := by decide +kernel
theorem dX8_findLeast_42 : decode cX8_findLeast 42 = .ok (.iaload, 1) := by decide +kernel
theorem dX8_findLeast_43 : decode cX8_findLeast 43 = .ok (.aload_n 0, 1) := by decide +kernel
theorem dX8_findLeast_44 : decode cX8_findLeast 44 = .ok (.getfield 18, 3) := by decide +kernel
theorem dX8_findLeast_47 : decode cX8_findLeast 47 = .ok (.iload_n 2, 1) := by decide +kernel
theorem dX8_findLeast_48 : decode cX8_findLeast 48 = .ok (.bipush 9, 2) := by decide +kernel
theorem dX8_findLeast_50 : decode cX8_findLeast 50 = .ok (.imul, 1) := by decide +kernel
theorem dX8_findLeast_51 : decode cX8_findLeast 51 = .ok (.iload_n 3, 1) := by decide +kernel
theorem dX8_findLeast_52 : decode cX8_findLeast 52 = .ok (.iadd, 1) := by decide +kernel
theorem dX8_findLeast_53 : decode cX8_findLeast 53 = .ok (.iaload, 1) := by decide +kernel
theorem dX8_findLeast_54 : decode cX8_findLeast 54 = .ok (.aload_n 0, 1) := by decide +kernel
theorem dX8_findLeast_55 : decode cX8_findLeast 55 = .ok (.getfield 22, 3) := by decide +kernel
theorem dX8_findLeast_58 : decode cX8_findLeast 58 = .ok (.iload_n 3, 1) := by decide +kernel
theorem dX8_findLeast_59 : decode cX8_findLeast 59 = .ok (.iaload, 1) := by decide +kernel
theorem dX8_findLeast_60 : decode cX8_findLeast 60 = .ok (.invokestatic 72, 3) := by decide +kernel
theorem dX8_findLeast_63 : decode cX8_findLeast 63 = .ok (.invokestatic 80, 3) := by decide +kernel
theorem dX8_findLeast_66 : decode cX8_findLeast 66 = .ok (.iastore, 1) := by decide +kernel
theorem dX8_findLeast_67 : decode cX8_findLeast 67 = .ok (.iinc 3 1, 3) := by decide +kernel
theorem dX8_findLeast_70 : decode cX8_findLeast 70 = .ok (.goto (-43), 3) := by decide +kernel
theorem dX8_findLeast_73 : decode cX8_findLeast 73 = .ok (.iinc 2 (-1), 3) := by decide +kernel
theorem dX8_findLeast_76 : decode cX8_findLeast 76 = .ok (.goto (-65), 3) := by decide +kernel
theorem dX8_findLeast_79 : decode cX8_findLeast 79 = .ok (.return_, 1) := by decide +kernel
theorem dX8_findFewest_0 : decode cX8_findFewest 0 = .ok (.aload_n 0, 1) := by decide +kernel
theorem dX8_findFewest_1 : decode cX8_findFewest 1 = .ok (.getfield 25, 3) := by decide +kernel
theorem dX8_findFewest_4 : decode cX8_findFewest 4 = .ok (.iload_n 1, 1) := by decide +kernel
theorem dX8_findFewest_5 : decode cX8_findFewest 5 = .ok (.iconst 0, 1) := by decide +kernel
theorem dX8_findFewest_6 : decode cX8_findFewest 6 = .ok (.iastore, 1) := by decide +kernel
theorem dX8_findFewest_7 : decode cX8_findFewest 7 = .ok (.iload_n 1, 1) := by decide +kernel
theorem dX8_findFewest_8 : decode cX8_findFewest 8 = .ok (.iconst 1, 1) := by decide +kernel
theorem dX8_findFewest_9 : decode cX8_findFewest 9 = .ok (.isub, 1) := by decide +kernel
theorem dX8_findFewest_10 : decode cX8_findFewest 10 = .ok (.istore_n 2, 1) := by decide +kernel
theorem dX8_findFewest_11 : decode cX8_findFewest 11 = .ok (.iload_n 2, 1) := by decide +kernel
theorem dX8_findFewest_12 : decode cX8_findFewest 12 = .ok (.ifCond .lt 75, 3) := by decide +kernel
theorem dX8_findFewest_15 : decode cX8_findFewest 15 = .ok (.aload_n 0, 1) := by decide +kernel
theorem dX8_findFewest_16 : decode cX8_findFewest 16 = .ok (.getfield 25, 3) := by decide +kernel
theorem dX8_findFewest_19 : decode cX8_findFewest 19 = .ok (.iload_n 2, 1) := by decide +kernel
theorem dX8_findFewest_20 : decode cX8_findFewest 20 = .ok (.bipush 9, 2) := by decide +kernel
theorem dX8_findFewest_22 : decode cX8_findFewest 22 = .ok (.iastore, 1) := by decide +kernel
theorem dX8_findFewest_23 : decode cX8_findFewest 23 = .ok (.iload_n 2, 1) := by decide +kernel
theorem dX8_findFewest_24 : decode cX8_findFewest 24 = .ok (.iconst 1, 1) := by decide +kernel
theorem dX8_findFewest_25 : decode cX8_findFewest 25 = .ok (.iadd, 1) := by decide +kernel
theorem dX8_findFewest_26 : decode cX8_findFewest 26 = .ok (.istore_n 3, 1) := by decide +kernel
theorem dX8_findFewest_27 : decode cX8_findFewest 27 = .ok (.iload_n 3, 1) := by decide +kernel
theorem dX8_findFewest_28 : decode cX8_findFewest 28 = .ok (.iload_n 1, 1) := by decide +kernel
theorem dX8_findFewest_29 : decode cX8_findFewest 29 = .ok (.if_icmp .gt 52, 3) := by decide +kernel
theorem dX8_findFewest_32 : decode cX8_findFewest 32 = .ok (.aload_n 0, 1) := by decide +kernel
theorem dX8_findFewest_33 : decode cX8_findFewest 33 = .ok (.getfield 18, 3) := by decide +kernel
theorem dX8_findFewest_36 : decode cX8_findFewest 36 = .ok (.iload_n 2, 1) := by decide +kernel
theorem dX8_findFewest_37 : decode cX8_findFewest 37 = .ok (.bipush 9, 2) := by decide +kernel
theorem dX8_findFewest_39 : decode cX8_findFewest 39 = .ok (.imul, 1) := by decide +kernel
theorem dX8_findFewest_40 : decode cX8_findFewest 40 = .ok (.iload_n 3, 1) := by decide +kernel
theorem dX8_findFewest_41 : decode cX8_findFewest 41 = .ok (.iadd, 1) := by decide +kernel
theorem dX8_findFewest_42 : decode cX8_findFewest 42 = .ok (.iaload, 1) := by decide +kernel
theorem dX8_findFewest_43 : decode cX8_findFewest 43 = .ok (.aload_n 0, 1) := by decide +kernel
theorem dX8_findFewest_44 : decode cX8_findFewest 44 = .ok (.getfield 22, 3) := by decide +kernel
theorem dX8_findFewest_47 : decode cX8_findFewest 47 = .ok (.iconst 0, 1) := by decide +kernel
theorem dX8_findFewest_48 : decode cX8_findFewest 48 = .ok (.iaload, 1) := by decide +kernel
theorem dX8_findFewest_49 : decode cX8_findFewest 49 = .ok (.if_icmp .gt 26, 3) := by decide +kernel
theorem dX8_findFewest_52 : decode cX8_findFewest 52 = .ok (.aload_n 0, 1) := by decide +kernel
theorem dX8_findFewest_53 : decode cX8_findFewest 53 = .ok (.getfield 25, 3) := by decide +kernel
theorem dX8_findFewest_56 : decode cX8_findFewest 56 = .ok (.iload_n 2, 1) := by decide +kernel
theorem dX8_findFewest_57 : decode cX8_findFewest 57 = .ok (.aload_n 0, 1) := by decide +kernel
theorem dX8_findFewest_58 : decode cX8_findFewest 58 = .ok (.getfield 25, 3) := by decide +kernel
theorem dX8_findFewest_61 : decode cX8_findFewest 61 = .ok (.iload_n 2, 1) := by decide +kernel
theorem dX8_findFewest_62 : decode cX8_findFewest 62 = .ok (.iaload, 1) := by decide +kernel
theorem dX8_findFewest_63 : decode cX8_findFewest 63 = .ok (.aload_n 0, 1) := by decide +kernel
theorem dX8_findFewest_64 : decode cX8_findFewest 64 = .ok (.getfield 25, 3) := by decide +kernel
theorem dX8_findFewest_67 : decode cX8_findFewest 67 = .ok (.iload_n 3, 1) := by decide +kernel
theorem dX8_findFewest_68 : decode cX8_findFewest 68 = .ok (.iaload, 1) := by decide +kernel
theorem dX8_findFewest_69 : decode cX8_findFewest 69 = .ok (.iconst 1, 1) := by decide +kernel
theorem dX8_findFewest_70 : decode cX8_findFewest 70 = .ok (.iadd, 1) := by decide +kernel
theorem dX8_findFewest_71 : decode cX8_findFewest 71 = .ok (.invokestatic 80, 3) := by decide +kernel
theorem dX8_findFewest_74 : decode cX8_findFewest 74 = .ok (.iastore, 1) := by decide +kernel
theorem dX8_findFewest_75 : decode cX8_findFewest 75 = .ok (.iinc 3 1, 3) := by decide +kernel
theorem dX8_findFewest_78 : decode cX8_findFewest 78 = .ok (.goto (-51), 3) := by decide +kernel
theorem dX8_findFewest_81 : decode cX8_findFewest 81 = .ok (.iinc 2 (-1), 3) := by decide +kernel
theorem dX8_findFewest_84 : decode cX8_findFewest 84 = .ok (.goto (-73), 3) := by decide +kernel
theorem dX8_findFewest_87 : decode cX8_findFewest 87 = .ok (.return_, 1) := by decide +kernel
theorem dX8_endOfRow_0 : decode cX8_endOfRow 0 = .ok (.iload_n 2, 1) := by decide +kernel
theorem dX8_endOfRow_1 : decode cX8_endOfRow 1 = .ok (.istore_n 3, 1) := by decide +kernel
theorem dX8_endOfRow_2 : decode cX8_endOfRow 2 = .ok (.iload_n 3, 1) := by decide +kernel
theorem dX8_endOfRow_3 : decode cX8_endOfRow 3 = .ok (.iload_n 1, 1) := by decide +kernel
theorem dX8_endOfRow_4 : decode cX8_endOfRow 4 = .ok (.iconst 1, 1) := by decide +kernel
theorem dX8_endOfRow_5 : decode cX8_endOfRow 5 = .ok (.iadd, 1) := by decide +kernel
theorem dX8_endOfRow_6 : decode cX8_endOfRow 6 = .ok (.if_icmp .le 48, 3) := by decide +kernel
theorem dX8_endOfRow_9 : decode cX8_endOfRow 9 = .ok (.aload_n 0, 1) := by decide +kernel
theorem dX8_endOfRow_10 : decode cX8_endOfRow 10 = .ok (.getfield 18, 3) := by decide +kernel
theorem dX8_endOfRow_13 : decode cX8_endOfRow 13 = .ok (.iload_n 1, 1) := by decide +kernel
theorem dX8_endOfRow_14 : decode cX8_endOfRow 14 = .ok (.bipush 9, 2) := by decide +kernel
theorem dX8_endOfRow_16 : decode cX8_endOfRow 16 = .ok (.imul, 1) := by decide +kernel
theorem dX8_endOfRow_17 : decode cX8_endOfRow 17 = .ok (.iload_n 3, 1) := by decide +kernel
theorem dX8_endOfRow_18 : decode cX8_endOfRow 18 = .ok (.iadd, 1) := by decide +kernel
theorem dX8_endOfRow_19 : decode cX8_endOfRow 19 = .ok (.iaload, 1) := by decide +kernel
theorem dX8_endOfRow_20 : decode cX8_endOfRow 20 = .ok (.aload_n 0, 1) := by decide +kernel
theorem dX8_endOfRow_21 : decode cX8_endOfRow 21 = .ok (.getfield 22, 3) := by decide +kernel
theorem dX8_endOfRow_24 : decode cX8_endOfRow 24 = .ok (.iconst 0, 1) := by decide +kernel
theorem dX8_endOfRow_25 : decode cX8_endOfRow 25 = .ok (.iaload, 1) := by decide +kernel
theorem dX8_endOfRow_26 : decode cX8_endOfRow 26 = .ok (.if_icmp .gt 22, 3) := by decide +kernel
theorem dX8_endOfRow_29 : decode cX8_endOfRow 29 = .ok (.aload_n 0, 1) := by decide +kernel
theorem dX8_endOfRow_30 : decode cX8_endOfRow 30 = .ok (.getfield 25, 3) := by decide +kernel
theorem dX8_endOfRow_33 : decode cX8_endOfRow 33 = .ok (.iload_n 3, 1) := by decide +kernel
theorem dX8_endOfRow_34 : decode cX8_endOfRow 34 = .ok (.iaload, 1) := by decide +kernel
theorem dX8_endOfRow_35 : decode cX8_endOfRow 35 = .ok (.iconst 1, 1) := by decide +kernel
theorem dX8_endOfRow_36 : decode cX8_endOfRow 36 = .ok (.iadd, 1) := by decide +kernel
theorem dX8_endOfRow_37 : decode cX8_endOfRow 37 = .ok (.aload_n 0, 1) := by decide +kernel
theorem dX8_endOfRow_38 : decode cX8_endOfRow 38 = .ok (.getfield 25, 3) := by decide +kernel
theorem dX8_endOfRow_41 : decode cX8_endOfRow 41 = .ok (.iload_n 1, 1) := by decide +kernel
theorem dX8_endOfRow_42 : decode cX8_endOfRow 42 = .ok (.iaload, 1) := by decide +kernel
theorem dX8_endOfRow_43 : decode cX8_endOfRow 43 = .ok (.if_icmp .ne 5, 3) := by decide +kernel
theorem dX8_endOfRow_46 : decode cX8_endOfRow 46 = .ok (.iload_n 3, 1) := by decide +kernel
theorem dX8_endOfRow_47 : decode cX8_endOfRow 47 = .ok (.ireturn, 1) := by decide +kernel
theorem dX8_endOfRow_48 : decode cX8_endOfRow 48 = .ok (.iinc 3 (-1), 3) := by decide +kernel
theorem dX8_endOfRow_51 : decode cX8_endOfRow 51 = .ok (.goto (-49), 3) := by decide +kernel
theorem dX8_endOfRow_54 : decode cX8_endOfRow 54 = .ok (.iload_n 1, 1) := by decide +kernel
theorem dX8_endOfRow_55 : decode cX8_endOfRow 55 = .ok (.iconst 1, 1) := by decide +kernel
theorem dX8_endOfRow_56 : decode cX8_endOfRow 56 = .ok (.iadd, 1) := by decide +kernel
theorem dX8_endOfRow_57 : decode cX8_endOfRow 57 = .ok (.ireturn, 1) := by decide +kernel
theorem dX8_layRow_0 : decode cX8_layRow 0 = .ok (.aload_n 1, 1) := by decide +kernel
theorem dX8_layRow_1 : decode cX8_layRow 1 = .ok (.iload_n 2, 1) := by decide +kernel
theorem dX8_layRow_2 : decode cX8_layRow 2 = .ok (.aload_n 1, 1) := by decide +kernel
theorem dX8_layRow_3 : decode cX8_layRow 3 = .ok (.getfield 55, 3) := by decide +kernel
theorem dX8_layRow_6 : decode cX8_layRow 6 = .ok (.iconst 0, 1) := by decide +kernel
theorem dX8_layRow_7 : decode cX8_layRow 7 = .ok (.aload_n 1, 1) := by decide +kernel
theorem dX8_layRow_8 : decode cX8_layRow 8 = .ok (.getfield 28, 3) := by decide +kernel
theorem dX8_layRow_11 : decode cX8_layRow 11 = .ok (.invokevirtual 58, 3) := by decide +kernel
theorem dX8_layRow_14 : decode cX8_layRow 14 = .ok (.istore 4, 2) := by decide +kernel
theorem dX8_layRow_16 : decode cX8_layRow 16 = .ok (.aload_n 1, 1) := by decide +kernel
theorem dX8_layRow_17 : decode cX8_layRow 17 = .ok (.iload_n 3, 1) := by decide +kernel
theorem dX8_layRow_18 : decode cX8_layRow 18 = .ok (.aload_n 1, 1) := by decide +kernel
theorem dX8_layRow_19 : decode cX8_layRow 19 = .ok (.getfield 55, 3) := by decide +kernel
theorem dX8_layRow_22 : decode cX8_layRow 22 = .ok (.iconst 0, 1) := by decide +kernel
theorem dX8_layRow_23 : decode cX8_layRow 23 = .ok (.aload_n 1, 1) := by decide +kernel
theorem dX8_layRow_24 : decode cX8_layRow 24 = .ok (.getfield 28, 3) := by decide +kernel
theorem dX8_layRow_27 : decode cX8_layRow 27 = .ok (.invokevirtual 58, 3) := by decide +kernel
theorem dX8_layRow_30 : decode cX8_layRow 30 = .ok (.iload 4, 2) := by decide +kernel
theorem dX8_layRow_32 : decode cX8_layRow 32 = .ok (.isub, 1) := by decide +kernel
theorem dX8_layRow_33 : decode cX8_layRow 33 = .ok (.istore 5, 2) := by decide +kernel
theorem dX8_layRow_35 : decode cX8_layRow 35 = .ok (.iload_n 2, 1) := by decide +kernel
theorem dX8_layRow_36 : decode cX8_layRow 36 = .ok (.istore 6, 2) := by decide +kernel
theorem dX8_layRow_38 : decode cX8_layRow 38 = .ok (.iload 6, 2) := by decide +kernel
theorem dX8_layRow_40 : decode cX8_layRow 40 = .ok (.iload_n 3, 1) := by decide +kernel
theorem dX8_layRow_41 : decode cX8_layRow 41 = .ok (.if_icmp .ge 70, 3) := by decide +kernel
theorem dX8_layRow_44 : decode cX8_layRow 44 = .ok (.aload_n 1, 1) := by decide +kernel
theorem dX8_layRow_45 : decode cX8_layRow 45 = .ok (.iload 6, 2) := by decide +kernel
theorem dX8_layRow_47 : decode cX8_layRow 47 = .ok (.aload_n 1, 1) := by decide +kernel
theorem dX8_layRow_48 : decode cX8_layRow 48 = .ok (.getfield 62, 3) := by decide +kernel
theorem dX8_layRow_51 : decode cX8_layRow 51 = .ok (.iload_n 2, 1) := by decide +kernel
theorem dX8_layRow_52 : decode cX8_layRow 52 = .ok (.iload_n 3, 1) := by decide +kernel
theorem dX8_layRow_53 : decode cX8_layRow 53 = .ok (.invokevirtual 58, 3) := by decide +kernel
theorem dX8_layRow_56 : decode cX8_layRow 56 = .ok (.istore 7, 2) := by decide +kernel
theorem dX8_layRow_58 : decode cX8_layRow 58 = .ok (.aload_n 1, 1) := by decide +kernel
theorem dX8_layRow_59 : decode cX8_layRow 59 = .ok (.iload 6, 2) := by decide +kernel
theorem dX8_layRow_61 : decode cX8_layRow 61 = .ok (.iconst 1, 1) := by decide +kernel
theorem dX8_layRow_62 : decode cX8_layRow 62 = .ok (.iadd, 1) := by decide +kernel
theorem dX8_layRow_63 : decode cX8_layRow 63 = .ok (.aload_n 1, 1) := by decide +kernel
theorem dX8_layRow_64 : decode cX8_layRow 64 = .ok (.getfield 62, 3) := by decide +kernel
theorem dX8_layRow_67 : decode cX8_layRow 67 = .ok (.iload_n 2, 1) := by decide +kernel
theorem dX8_layRow_68 : decode cX8_layRow 68 = .ok (.iload_n 3, 1) := by decide +kernel
theorem dX8_layRow_69 : decode cX8_layRow 69 = .ok (.invokevirtual 58, 3) := by decide +kernel
theorem dX8_layRow_72 : decode cX8_layRow 72 = .ok (.istore 8, 2) := by decide +kernel
theorem dX8_layRow_74 : decode cX8_layRow 74 = .ok (.aload_n 0, 1) := by decide +kernel
theorem dX8_layRow_75 : decode cX8_layRow 75 = .ok (.getfield 12, 3) := by decide +kernel
theorem dX8_layRow_78 : decode cX8_layRow 78 = .ok (.aload_n 1, 1) := by decide +kernel
theorem dX8_layRow_79 : decode cX8_layRow 79 = .ok (.iload 6, 2) := by decide +kernel
theorem dX8_layRow_81 : decode cX8_layRow 81 = .ok (.aload_n 1, 1) := by decide +kernel
theorem dX8_layRow_82 : decode cX8_layRow 82 = .ok (.getfield 83, 3) := by decide +kernel
theorem dX8_layRow_85 : decode cX8_layRow 85 = .ok (.iload 7, 2) := by decide +kernel
theorem dX8_layRow_87 : decode cX8_layRow 87 = .ok (.iadd, 1) := by decide +kernel
theorem dX8_layRow_88 : decode cX8_layRow 88 = .ok (.aload_n 1, 1) := by decide +kernel
theorem dX8_layRow_89 : decode cX8_layRow 89 = .ok (.getfield 86, 3) := by decide +kernel
theorem dX8_layRow_92 : decode cX8_layRow 92 = .ok (.iload 4, 2) := by decide +kernel
theorem dX8_layRow_94 : decode cX8_layRow 94 = .ok (.iadd, 1) := by decide +kernel
theorem dX8_layRow_95 : decode cX8_layRow 95 = .ok (.iload 8, 2) := by decide +kernel
theorem dX8_layRow_97 : decode cX8_layRow 97 = .ok (.iload 7, 2) := by decide +kernel
theorem dX8_layRow_99 : decode cX8_layRow 99 = .ok (.isub, 1) := by decide +kernel
theorem dX8_layRow_100 : decode cX8_layRow 100 = .ok (.iload 5, 2) := by decide +kernel
theorem dX8_layRow_102 : decode cX8_layRow 102 = .ok (.invokevirtual 89, 3) := by decide +kernel
theorem dX8_layRow_105 : decode cX8_layRow 105 = .ok (.iinc 6 1, 3) := by decide +kernel
theorem dX8_layRow_108 : decode cX8_layRow 108 = .ok (.goto (-70), 3) := by decide +kernel
theorem dX8_layRow_111 : decode cX8_layRow 111 = .ok (.return_, 1) := by decide +kernel
theorem dX9_init_0 : decode cX9_init 0 = .ok (.aload_n 0, 1) := by decide +kernel
theorem dX9_init_1 : decode cX9_init 1 = .ok (.invokespecial 3, 3) := by decide +kernel
theorem dX9_init_4 : decode cX9_init 4 = .ok (.aload_n 0, 1) := by decide +kernel
theorem dX9_init_5 : decode cX9_init 5 = .ok (.iconst 0, 1) := by decide +kernel
theorem dX9_init_6 : decode cX9_init 6 = .ok (.putfield 9, 3) := by decide +kernel
theorem dX9_init_9 : decode cX9_init 9 = .ok (.aload_n 0, 1) := by decide +kernel
theorem dX9_init_10 : decode cX9_init 10 = .ok (.sipush 1000, 3) := by decide +kernel
theorem dX9_init_13 : decode cX9_init 13 = .ok (.newarray .byte, 2) := by decide +kernel
theorem dX9_init_15 : decode cX9_init 15 = .ok (.putfield 15, 3) := by decide +kernel
theorem dX9_init_18 : decode cX9_init 18 = .ok (.return_, 1) := by decide +kernel
theorem dX9_add_0 : decode cX9_add 0 = .ok (.aload_n 0, 1) := by decide +kernel
theorem dX9_add_1 : decode cX9_add 1 = .ok (.getfield 9, 3) := by decide +kernel
theorem dX9_add_4 : decode cX9_add 4 = .ok (.sipush 996, 3) := by decide +kernel
theorem dX9_add_7 : decode cX9_add 7 = .ok (.if_icmp .le 4, 3) := by decide +kernel
theorem dX9_add_10 : decode cX9_add 10 = .ok (.return_, 1) := by decide +kernel
theorem dX9_add_11 : decode cX9_add 11 = .ok (.aload_n 0, 1) := by decide +kernel
theorem dX9_add_12 : decode cX9_add 12 = .ok (.getfield 15, 3) := by decide +kernel
theorem dX9_add_15 : decode cX9_add 15 = .ok (.aload_n 0, 1) := by decide +kernel
theorem dX9_add_16 : decode cX9_add 16 = .ok (.getfield 9, 3) := by decide +kernel
theorem dX9_add_19 : decode cX9_add 19 = .ok (.iload_n 1, 1) := by decide +kernel
theorem dX9_add_20 : decode cX9_add 20 = .ok (.bipush 24, 2) := by decide +kernel
theorem dX9_add_22 : decode cX9_add 22 = .ok (.ishr, 1) := by decide +kernel
theorem dX9_add_23 : decode cX9_add 23 = .ok (.i2b, 1) := by decide +kernel
theorem dX9_add_24 : decode cX9_add 24 = .ok (.bastore, 1) := by decide +kernel
theorem dX9_add_25 : decode cX9_add 25 = .ok (.aload_n 0, 1) := by decide +kernel
theorem dX9_add_26 : decode cX9_add 26 = .ok (.getfield 15, 3) := by decide +kernel
theorem dX9_add_29 : decode cX9_add 29 = .ok (.aload_n 0, 1) := by decide +kernel
theorem dX9_add_30 : decode cX9_add 30 = .ok (.getfield 9, 3) := by decide +kernel
theorem dX9_add_33 : decode cX9_add 33 = .ok (.iconst 1, 1) := by decide +kernel
theorem dX9_add_34 : decode cX9_add 34 = .ok (.iadd, 1) := by decide +kernel
theorem dX9_add_35 : decode cX9_add 35 = .ok (.iload_n 1, 1) := by decide +kernel
theorem dX9_add_36 : decode cX9_add 36 = .ok (.bipush 16, 2) := by decide +kernel
theorem dX9_add_38 : decode cX9_add 38 = .ok (.ishr, 1) := by decide +kernel
theorem dX9_add_39 : decode cX9_add 39 = .ok (.i2b, 1) := by decide +kernel
theorem dX9_add_40 : decode cX9_add 40 = .ok (.bastore, 1) := by decide +kernel
theorem dX9_add_41 : decode cX9_add 41 = .ok (.aload_n 0, 1) := by decide +kernel
theorem dX9_add_42 : decode cX9_add 42 = .ok (.getfield 15, 3) := by decide +kernel
theorem dX9_add_45 : decode cX9_add 45 = .ok (.aload_n 0, 1) := by decide +kernel
theorem dX9_add_46 : decode cX9_add 46 = .ok (.getfield 9, 3) := by decide +kernel
theorem dX9_add_49 : decode cX9_add 49 = .ok (.iconst 2, 1) := by decide +kernel
theorem dX9_add_50 : decode cX9_add 50 = .ok (.iadd, 1) := by decide +kernel
theorem dX9_add_51 : decode cX9_add 51 = .ok (.iload_n 1, 1) := by decide +kernel
theorem dX9_add_52 : decode cX9_add 52 = .ok (.bipush 8, 2) := by decide +kernel
theorem dX9_add_54 : decode cX9_add 54 = .ok (.ishr, 1) := by decide +kernel
theorem dX9_add_55 : decode cX9_add 55 = .ok (.i2b, 1) := by decide +kernel
theorem dX9_add_56 : decode cX9_add 56 = .ok (.bastore, 1) := by decide +kernel
theorem dX9_add_57 : decode cX9_add 57 = .ok (.aload_n 0, 1) := by decide +kernel
theorem dX9_add_58 : decode cX9_add 58 = .ok (.getfield 15, 3) := by decide +kernel
theorem dX9_add_61 : decode cX9_add 61 = .ok (.aload_n 0, 1) := by decide +kernel
theorem dX9_add_62 : decode cX9_add 62 = .ok (.getfield 9, 3) := by decide +kernel
theorem dX9_add_65 : decode cX9_add 65 = .ok (.iconst 3, 1) := by decide +kernel
theorem dX9_add_66 : decode cX9_add 66 = .ok (.iadd, 1) := by decide +kernel
theorem dX9_add_67 : decode cX9_add 67 = .ok (.iload_n 1, 1) := by decide +kernel
theorem dX9_add_68 : decode cX9_add 68 = .ok (.i2b, 1) := by decide +kernel
theorem dX9_add_69 : decode cX9_add 69 = .ok (.bastore, 1) := by decide +kernel
theorem dX9_add_70 : decode cX9_add 70 = .ok (.aload_n 0, 1) := by decide +kernel
theorem dX9_add_71 : decode cX9_add 71 = .ok (.dup, 1) := by decide +kernel
theorem dX9_add_72 : decode cX9_add 72 = .ok (.getfield 9, 3) := by decide +kernel
theorem dX9_add_75 : decode cX9_add 75 = .ok (.iconst 4, 1) := by decide +kernel
theorem dX9_add_76 : decode cX9_add 76 = .ok (.iadd, 1) := by decide +kernel
theorem dX9_add_77 : decode cX9_add 77 = .ok (.putfield 9, 3) := by decide +kernel
theorem dX9_add_80 : decode cX9_add 80 = .ok (.return_, 1) := by decide +kernel
theorem dX9_byteAt_0 : decode cX9_byteAt 0 = .ok (.iload_n 1, 1) := by decide +kernel
theorem dX9_byteAt_1 : decode cX9_byteAt 1 = .ok (.ifCond .lt 24, 3) := by decide +kernel
theorem dX9_byteAt_4 : decode cX9_byteAt 4 = .ok (.iload_n 1, 1) := by decide +kernel
theorem dX9_byteAt_5 : decode cX9_byteAt 5 = .ok (.aload_n 0, 1) := by decide +kernel
theorem dX9_byteAt_6 : decode cX9_byteAt 6 = .ok (.getfield 9, 3) := by decide +kernel
theorem dX9_byteAt_9 : decode cX9_byteAt 9 = .ok (.if_icmp .ge 16, 3) := by decide +kernel
theorem dX9_byteAt_12 : decode cX9_byteAt 12 = .ok (.aload_n 0, 1) := by decide +kernel
theorem dX9_byteAt_13 : decode cX9_byteAt 13 = .ok (.getfield 15, 3) := by decide +kernel
theorem dX9_byteAt_16 : decode cX9_byteAt 16 = .ok (.iload_n 1, 1) := by decide +kernel
theorem dX9_byteAt_17 : decode cX9_byteAt 17 = .ok (.baload, 1) := by decide +kernel
theorem dX9_byteAt_18 : decode cX9_byteAt 18 = .ok (.sipush 255, 3) := by decide +kernel
theorem dX9_byteAt_21 : decode cX9_byteAt 21 = .ok (.iand, 1) := by decide +kernel
theorem dX9_byteAt_22 : decode cX9_byteAt 22 = .ok (.goto 4, 3) := by decide +kernel
theorem dX9_byteAt_25 : decode cX9_byteAt 25 = .ok (.iconst (-1), 1) := by decide +kernel
theorem dX9_byteAt_26 : decode cX9_byteAt 26 = .ok (.ireturn, 1) := by decide +kernel
theorem dX9_says_0 : decode cX9_says 0 = .ok (.iload_n 3, 1) := by decide +kernel
theorem dX9_says_1 : decode cX9_says 1 = .ok (.iload_n 2, 1) := by decide +kernel
theorem dX9_says_2 : decode cX9_says 2 = .ok (.isub, 1) := by decide +kernel
theorem dX9_says_3 : decode cX9_says 3 = .ok (.aload_n 1, 1) := by decide +kernel
theorem dX9_says_4 : decode cX9_says 4 = .ok (.invokevirtual 19, 3) := by decide +kernel
theorem dX9_says_7 : decode cX9_says 7 = .ok (.if_icmp .eq 5, 3) := by decide +kernel
theorem dX9_says_10 : decode cX9_says 10 = .ok (.iconst 0, 1) := by decide +kernel
theorem dX9_says_11 : decode cX9_says 11 = .ok (.ireturn, 1) := by decide +kernel
theorem dX9_says_12 : decode cX9_says 12 = .ok (.iconst 0, 1) := by decide +kernel
theorem dX9_says_13 : decode cX9_says 13 = .ok (.istore 4, 2) := by decide +kernel
theorem dX9_says_15 : decode cX9_says 15 = .ok (.iload 4, 2) := by decide +kernel
theorem dX9_says_17 : decode cX9_says 17 = .ok (.aload_n 1, 1) := by decide +kernel
theorem dX9_says_18 : decode cX9_says 18 = .ok (.invokevirtual 19, 3) := by decide +kernel
theorem dX9_says_21 : decode cX9_says 21 = .ok (.if_icmp .ge 28, 3) := by decide +kernel
theorem dX9_says_24 : decode cX9_says 24 = .ok (.aload_n 0, 1) := by decide +kernel
theorem dX9_says_25 : decode cX9_says 25 = .ok (.iload_n 2, 1) := by decide +kernel
theorem dX9_says_26 : decode cX9_says 26 = .ok (.iload 4, 2) := by decide +kernel
theorem dX9_says_28 : decode cX9_says 28 = .ok (.iadd, 1) := by decide +kernel
theorem dX9_says_29 : decode cX9_says 29 = .ok (.invokevirtual 24, 3) := by decide +kernel
theorem dX9_says_32 : decode cX9_says 32 = .ok (.aload_n 1, 1) := by decide +kernel
theorem dX9_says_33 : decode cX9_says 33 = .ok (.iload 4, 2) := by decide +kernel
theorem dX9_says_35 : decode cX9_says 35 = .ok (.invokevirtual 28, 3) := by decide +kernel
theorem dX9_says_38 : decode cX9_says 38 = .ok (.if_icmp .eq 5, 3) := by decide +kernel
theorem dX9_says_41 : decode cX9_says 41 = .ok (.iconst 0, 1) := by decide +kernel
theorem dX9_says_42 : decode cX9_says 42 = .ok (.ireturn, 1) := by decide +kernel
theorem dX9_says_43 : decode cX9_says 43 = .ok (.iinc 4 1, 3) := by decide +kernel
theorem dX9_says_46 : decode cX9_says 46 = .ok (.goto (-31), 3) := by decide +kernel
theorem dX9_says_49 : decode cX9_says 49 = .ok (.iconst 1, 1) := by decide +kernel
theorem dX9_says_50 : decode cX9_says 50 = .ok (.ireturn, 1) := by decide +kernel
theorem dX10_init_0 : decode cX10_init 0 = .ok (.aload_n 0, 1) := by decide +kernel
theorem dX10_init_1 : decode cX10_init 1 = .ok (.invokespecial 3, 3) := by decide +kernel
theorem dX10_init_4 : decode cX10_init 4 = .ok (.aload_n 0, 1) := by decide +kernel
theorem dX10_init_5 : decode cX10_init 5 = .ok (.iconst 0, 1) := by decide +kernel
theorem dX10_init_6 : decode cX10_init 6 = .ok (.putfield 9, 3) := by decide +kernel
theorem dX10_init_9 : decode cX10_init 9 = .ok (.aload_n 0, 1) := by decide +kernel
theorem dX10_init_10 : decode cX10_init 10 = .ok (.iconst 0, 1) := by decide +kernel
theorem dX10_init_11 : decode cX10_init 11 = .ok (.putfield 15, 3) := by decide +kernel
theorem dX10_init_14 : decode cX10_init 14 = .ok (.aload_n 0, 1) := by decide +kernel
theorem dX10_init_15 : decode cX10_init 15 = .ok (.bipush 40, 2) := by decide +kernel
theorem dX10_init_17 : decode cX10_init 17 = .ok (.newarray .int, 2) := by decide +kernel
theorem dX10_init_19 : decode cX10_init 19 = .ok (.putfield 18, 3) := by decide +kernel
theorem dX10_init_22 : decode cX10_init 22 = .ok (.aload_n 0, 1) := by decide +kernel
theorem dX10_init_23 : decode cX10_init 23 = .ok (.bipush 40, 2) := by decide +kernel
theorem dX10_init_25 : decode cX10_init 25 = .ok (.newarray .int, 2) := by decide +kernel
theorem dX10_init_27 : decode cX10_init 27 = .ok (.putfield 22, 3) := by decide +kernel
theorem dX10_init_30 : decode cX10_init 30 = .ok (.aload_n 0, 1) := by decide +kernel
theorem dX10_init_31 : decode cX10_init 31 = .ok (.bipush 40, 2) := by decide +kernel
theorem dX10_init_33 : decode cX10_init 33 = .ok (.newarray .int, 2) := by decide +kernel
theorem dX10_init_35 : decode cX10_init 35 = .ok (.putfield 25, 3) := by decide +kernel
theorem dX10_init_38 : decode cX10_init 38 = .ok (.aload_n 0, 1) := by decide +kernel
theorem dX10_init_39 : decode cX10_init 39 = .ok (.bipush 40, 2) := by decide +kernel
theorem dX10_init_41 : decode cX10_init 41 = .ok (.newarray .int, 2) := by decide +kernel
theorem dX10_init_43 : decode cX10_init 43 = .ok (.putfield 28, 3) := by decide +kernel
theorem dX10_init_46 : decode cX10_init 46 = .ok (.aload_n 0, 1) := by decide +kernel
theorem dX10_init_47 : decode cX10_init 47 = .ok (.bipush 40, 2) := by decide +kernel
theorem dX10_init_49 : decode cX10_init 49 = .ok (.newarray .int, 2) := by decide +kernel

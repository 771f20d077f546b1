theorem dX0_init_0 : decode cX0_init 0 = .ok (.aload_n 0, 1) := by decide +kernel
theorem dX0_init_1 : decode cX0_init 1 = .ok (.invokespecial 3, 3) := by decide +kernel
theorem dX0_init_4 : decode cX0_init 4 = .ok (.aload_n 0, 1) := by decide +kernel
theorem dX0_init_5 : decode cX0_init 5 = .ok (.iconst 0, 1) := by decide +kernel
theorem dX0_init_6 : decode cX0_init 6 = .ok (.putfield 9, 3) := by decide +kernel
theorem dX0_init_9 : decode cX0_init 9 = .ok (.aload_n 0, 1) := by decide +kernel
theorem dX0_init_10 : decode cX0_init 10 = .ok (.bipush 100, 2) := by decide +kernel
theorem dX0_init_12 : decode cX0_init 12 = .ok (.newarray .int, 2) := by decide +kernel
theorem dX0_init_14 : decode cX0_init 14 = .ok (.putfield 15, 3) := by decide +kernel
theorem dX0_init_17 : decode cX0_init 17 = .ok (.aload_n 0, 1) := by decide +kernel
theorem dX0_init_18 : decode cX0_init 18 = .ok (.bipush 100, 2) := by decide +kernel
theorem dX0_init_20 : decode cX0_init 20 = .ok (.newarray .int, 2) := by decide +kernel
theorem dX0_init_22 : decode cX0_init 22 = .ok (.putfield 19, 3) := by decide +kernel
theorem dX0_init_25 : decode cX0_init 25 = .ok (.aload_n 0, 1) := by decide +kernel
theorem dX0_init_26 : decode cX0_init 26 = .ok (.bipush 100, 2) := by decide +kernel
theorem dX0_init_28 : decode cX0_init 28 = .ok (.newarray .int, 2) := by decide +kernel
theorem dX0_init_30 : decode cX0_init 30 = .ok (.putfield 22, 3) := by decide +kernel
theorem dX0_init_33 : decode cX0_init 33 = .ok (.aload_n 0, 1) := by decide +kernel
theorem dX0_init_34 : decode cX0_init 34 = .ok (.bipush 40, 2) := by decide +kernel
theorem dX0_init_36 : decode cX0_init 36 = .ok (.newarray .int, 2) := by decide +kernel
theorem dX0_init_38 : decode cX0_init 38 = .ok (.putfield 25, 3) := by decide +kernel
theorem dX0_init_41 : decode cX0_init 41 = .ok (.return_, 1) := by decide +kernel
theorem dX0_add_0 : decode cX0_add 0 = .ok (.aload_n 0, 1) := by decide +kernel
theorem dX0_add_1 : decode cX0_add 1 = .ok (.getfield 9, 3) := by decide +kernel
theorem dX0_add_4 : decode cX0_add 4 = .ok (.bipush 100, 2) := by decide +kernel
theorem dX0_add_6 : decode cX0_add 6 = .ok (.if_icmp .lt 5, 3) := by decide +kernel
theorem dX0_add_9 : decode cX0_add 9 = .ok (.iconst (-1), 1) := by decide +kernel
theorem dX0_add_10 : decode cX0_add 10 = .ok (.ireturn, 1) := by decide +kernel
theorem dX0_add_11 : decode cX0_add 11 = .ok (.aload_n 0, 1) := by decide +kernel
theorem dX0_add_12 : decode cX0_add 12 = .ok (.getfield 15, 3) := by decide +kernel
theorem dX0_add_15 : decode cX0_add 15 = .ok (.aload_n 0, 1) := by decide +kernel
theorem dX0_add_16 : decode cX0_add 16 = .ok (.getfield 9, 3) := by decide +kernel
theorem dX0_add_19 : decode cX0_add 19 = .ok (.iload_n 1, 1) := by decide +kernel
theorem dX0_add_20 : decode cX0_add 20 = .ok (.iastore, 1) := by decide +kernel
theorem dX0_add_21 : decode cX0_add 21 = .ok (.aload_n 0, 1) := by decide +kernel
theorem dX0_add_22 : decode cX0_add 22 = .ok (.getfield 19, 3) := by decide +kernel
theorem dX0_add_25 : decode cX0_add 25 = .ok (.aload_n 0, 1) := by decide +kernel
theorem dX0_add_26 : decode cX0_add 26 = .ok (.getfield 9, 3) := by decide +kernel
theorem dX0_add_29 : decode cX0_add 29 = .ok (.iload_n 2, 1) := by decide +kernel
theorem dX0_add_30 : decode cX0_add 30 = .ok (.iastore, 1) := by decide +kernel
theorem dX0_add_31 : decode cX0_add 31 = .ok (.aload_n 0, 1) := by decide +kernel
theorem dX0_add_32 : decode cX0_add 32 = .ok (.getfield 22, 3) := by decide +kernel
theorem dX0_add_35 : decode cX0_add 35 = .ok (.aload_n 0, 1) := by decide +kernel
theorem dX0_add_36 : decode cX0_add 36 = .ok (.getfield 9, 3) := by decide +kernel
theorem dX0_add_39 : decode cX0_add 39 = .ok (.iload_n 3, 1) := by decide +kernel
theorem dX0_add_40 : decode cX0_add 40 = .ok (.iastore, 1) := by decide +kernel
theorem dX0_add_41 : decode cX0_add 41 = .ok (.aload_n 0, 1) := by decide +kernel
theorem dX0_add_42 : decode cX0_add 42 = .ok (.dup, 1) := by decide +kernel
theorem dX0_add_43 : decode cX0_add 43 = .ok (.getfield 9, 3) := by decide +kernel
theorem dX0_add_46 : decode cX0_add 46 = .ok (.iconst 1, 1) := by decide +kernel
theorem dX0_add_47 : decode cX0_add 47 = .ok (.iadd, 1) := by decide +kernel
theorem dX0_add_48 : decode cX0_add 48 = .ok (.putfield 9, 3) := by decide +kernel
theorem dX0_add_51 : decode cX0_add 51 = .ok (.aload_n 0, 1) := by decide +kernel
theorem dX0_add_52 : decode cX0_add 52 = .ok (.getfield 9, 3) := by decide +kernel
theorem dX0_add_55 : decode cX0_add 55 = .ok (.iconst 1, 1) := by decide +kernel
theorem dX0_add_56 : decode cX0_add 56 = .ok (.isub, 1) := by decide +kernel
theorem dX0_add_57 : decode cX0_add 57 = .ok (.ireturn, 1) := by decide +kernel
theorem dX0_tellSizes_0 : decode cX0_tellSizes 0 = .ok (.iconst 0, 1) := by decide +kernel
theorem dX0_tellSizes_1 : decode cX0_tellSizes 1 = .ok (.istore 4, 2) := by decide +kernel
theorem dX0_tellSizes_3 : decode cX0_tellSizes 3 = .ok (.iload 4, 2) := by decide +kernel
theorem dX0_tellSizes_5 : decode cX0_tellSizes 5 = .ok (.aload_n 1, 1) := by decide +kernel
theorem dX0_tellSizes_6 : decode cX0_tellSizes 6 = .ok (.getfield 28, 3) := by decide +kernel
theorem dX0_tellSizes_9 : decode cX0_tellSizes 9 = .ok (.if_icmp .ge 28, 3) := by decide +kernel
theorem dX0_tellSizes_12 : decode cX0_tellSizes 12 = .ok (.aload_n 3, 1) := by decide +kernel
theorem dX0_tellSizes_13 : decode cX0_tellSizes 13 = .ok (.iload 4, 2) := by decide +kernel
theorem dX0_tellSizes_15 : decode cX0_tellSizes 15 = .ok (.aload_n 1, 1) := by decide +kernel
theorem dX0_tellSizes_16 : decode cX0_tellSizes 16 = .ok (.getfield 33, 3) := by decide +kernel
theorem dX0_tellSizes_19 : decode cX0_tellSizes 19 = .ok (.iload 4, 2) := by decide +kernel
theorem dX0_tellSizes_21 : decode cX0_tellSizes 21 = .ok (.iaload, 1) := by decide +kernel
theorem dX0_tellSizes_22 : decode cX0_tellSizes 22 = .ok (.iastore, 1) := by decide +kernel
theorem dX0_tellSizes_23 : decode cX0_tellSizes 23 = .ok (.aload_n 0, 1) := by decide +kernel
theorem dX0_tellSizes_24 : decode cX0_tellSizes 24 = .ok (.getfield 25, 3) := by decide +kernel
theorem dX0_tellSizes_27 : decode cX0_tellSizes 27 = .ok (.iload 4, 2) := by decide +kernel
theorem dX0_tellSizes_29 : decode cX0_tellSizes 29 = .ok (.iconst (-1), 1) := by decide +kernel
theorem dX0_tellSizes_30 : decode cX0_tellSizes 30 = .ok (.iastore, 1) := by decide +kernel
theorem dX0_tellSizes_31 : decode cX0_tellSizes 31 = .ok (.iinc 4 1, 3) := by decide +kernel
theorem dX0_tellSizes_34 : decode cX0_tellSizes 34 = .ok (.goto (-31), 3) := by decide +kernel
theorem dX0_tellSizes_37 : decode cX0_tellSizes 37 = .ok (.iconst 0, 1) := by decide +kernel
theorem dX0_tellSizes_38 : decode cX0_tellSizes 38 = .ok (.istore 4, 2) := by decide +kernel
theorem dX0_tellSizes_40 : decode cX0_tellSizes 40 = .ok (.iload 4, 2) := by decide +kernel
theorem dX0_tellSizes_42 : decode cX0_tellSizes 42 = .ok (.aload_n 0, 1) := by decide +kernel
theorem dX0_tellSizes_43 : decode cX0_tellSizes 43 = .ok (.getfield 9, 3) := by decide +kernel
theorem dX0_tellSizes_46 : decode cX0_tellSizes 46 = .ok (.if_icmp .ge 80, 3) := by decide +kernel
theorem dX0_tellSizes_49 : decode cX0_tellSizes 49 = .ok (.aload_n 0, 1) := by decide +kernel
theorem dX0_tellSizes_50 : decode cX0_tellSizes 50 = .ok (.getfield 15, 3) := by decide +kernel
theorem dX0_tellSizes_53 : decode cX0_tellSizes 53 = .ok (.iload 4, 2) := by decide +kernel
theorem dX0_tellSizes_55 : decode cX0_tellSizes 55 = .ok (.iaload, 1) := by decide +kernel
theorem dX0_tellSizes_56 : decode cX0_tellSizes 56 = .ok (.istore 5, 2) := by decide +kernel
theorem dX0_tellSizes_58 : decode cX0_tellSizes 58 = .ok (.aload_n 1, 1) := by decide +kernel
theorem dX0_tellSizes_59 : decode cX0_tellSizes 59 = .ok (.iload 5, 2) := by decide +kernel
theorem dX0_tellSizes_61 : decode cX0_tellSizes 61 = .ok (.invokevirtual 36, 3) := by decide +kernel
theorem dX0_tellSizes_64 : decode cX0_tellSizes 64 = .ok (.ifCond .eq 56, 3) := by decide +kernel
theorem dX0_tellSizes_67 : decode cX0_tellSizes 67 = .ok (.aload_n 0, 1) := by decide +kernel
theorem dX0_tellSizes_68 : decode cX0_tellSizes 68 = .ok (.getfield 19, 3) := by decide +kernel
theorem dX0_tellSizes_71 : decode cX0_tellSizes 71 = .ok (.iload 4, 2) := by decide +kernel
theorem dX0_tellSizes_73 : decode cX0_tellSizes 73 = .ok (.iaload, 1) := by decide +kernel
theorem dX0_tellSizes_74 : decode cX0_tellSizes 74 = .ok (.iload_n 2, 1) := by decide +kernel
theorem dX0_tellSizes_75 : decode cX0_tellSizes 75 = .ok (.if_icmp .gt 45, 3) := by decide +kernel
theorem dX0_tellSizes_78 : decode cX0_tellSizes 78 = .ok (.aload_n 0, 1) := by decide +kernel
theorem dX0_tellSizes_79 : decode cX0_tellSizes 79 = .ok (.getfield 19, 3) := by decide +kernel
theorem dX0_tellSizes_82 : decode cX0_tellSizes 82 = .ok (.iload 4, 2) := by decide +kernel
theorem dX0_tellSizes_84 : decode cX0_tellSizes 84 = .ok (.iaload, 1) := by decide +kernel
theorem dX0_tellSizes_85 : decode cX0_tellSizes 85 = .ok (.aload_n 0, 1) := by decide +kernel
theorem dX0_tellSizes_86 : decode cX0_tellSizes 86 = .ok (.getfield 25, 3) := by decide +kernel
theorem dX0_tellSizes_89 : decode cX0_tellSizes 89 = .ok (.iload 5, 2) := by decide +kernel
theorem dX0_tellSizes_91 : decode cX0_tellSizes 91 = .ok (.iaload, 1) := by decide +kernel
theorem dX0_tellSizes_92 : decode cX0_tellSizes 92 = .ok (.if_icmp .lt 28, 3) := by decide +kernel
theorem dX0_tellSizes_95 : decode cX0_tellSizes 95 = .ok (.aload_n 3, 1) := by decide +kernel
theorem dX0_tellSizes_96 : decode cX0_tellSizes 96 = .ok (.iload 5, 2) := by decide +kernel
theorem dX0_tellSizes_98 : decode cX0_tellSizes 98 = .ok (.aload_n 0, 1) := by decide +kernel
theorem dX0_tellSizes_99 : decode cX0_tellSizes 99 = .ok (.getfield 22, 3) := by decide +kernel
theorem dX0_tellSizes_102 : decode cX0_tellSizes 102 = .ok (.iload 4, 2) := by decide +kernel
theorem dX0_tellSizes_104 : decode cX0_tellSizes 104 = .ok (.iaload, 1) := by decide +kernel
theorem dX0_tellSizes_105 : decode cX0_tellSizes 105 = .ok (.iastore, 1) := by decide +kernel
theorem dX0_tellSizes_106 : decode cX0_tellSizes 106 = .ok (.aload_n 0, 1) := by decide +kernel
theorem dX0_tellSizes_107 : decode cX0_tellSizes 107 = .ok (.getfield 25, 3) := by decide +kernel
theorem dX0_tellSizes_110 : decode cX0_tellSizes 110 = .ok (.iload 5, 2) := by decide +kernel
theorem dX0_tellSizes_112 : decode cX0_tellSizes 112 = .ok (.aload_n 0, 1) := by decide +kernel
theorem dX0_tellSizes_113 : decode cX0_tellSizes 113 = .ok (.getfield 19, 3) := by decide +kernel
theorem dX0_tellSizes_116 : decode cX0_tellSizes 116 = .ok (.iload 4, 2) := by decide +kernel
theorem dX0_tellSizes_118 : decode cX0_tellSizes 118 = .ok (.iaload, 1) := by decide +kernel
theorem dX0_tellSizes_119 : decode cX0_tellSizes 119 = .ok (.iastore, 1) := by decide +kernel
theorem dX0_tellSizes_120 : decode cX0_tellSizes 120 = .ok (.iinc 4 1, 3) := by decide +kernel
theorem dX0_tellSizes_123 : decode cX0_tellSizes 123 = .ok (.goto (-83), 3) := by decide +kernel
theorem dX0_tellSizes_126 : decode cX0_tellSizes 126 = .ok (.aload_n 1, 1) := by decide +kernel
theorem dX0_tellSizes_127 : decode cX0_tellSizes 127 = .ok (.getfield 28, 3) := by decide +kernel
theorem dX0_tellSizes_130 : decode cX0_tellSizes 130 = .ok (.iconst 1, 1) := by decide +kernel
theorem dX0_tellSizes_131 : decode cX0_tellSizes 131 = .ok (.isub, 1) := by decide +kernel
theorem dX0_tellSizes_132 : decode cX0_tellSizes 132 = .ok (.istore 4, 2) := by decide +kernel
theorem dX0_tellSizes_134 : decode cX0_tellSizes 134 = .ok (.iload 4, 2) := by decide +kernel
theorem dX0_tellSizes_136 : decode cX0_tellSizes 136 = .ok (.ifCond .le 39, 3) := by decide +kernel
theorem dX0_tellSizes_139 : decode cX0_tellSizes 139 = .ok (.aload_n 1, 1) := by decide +kernel
theorem dX0_tellSizes_140 : decode cX0_tellSizes 140 = .ok (.aload_n 1, 1) := by decide +kernel
theorem dX0_tellSizes_141 : decode cX0_tellSizes 141 = .ok (.getfield 40, 3) := by decide +kernel
theorem dX0_tellSizes_144 : decode cX0_tellSizes 144 = .ok (.iload 4, 2) := by decide +kernel
theorem dX0_tellSizes_146 : decode cX0_tellSizes 146 = .ok (.iaload, 1) := by decide +kernel
theorem dX0_tellSizes_147 : decode cX0_tellSizes 147 = .ok (.invokevirtual 36, 3) := by decide +kernel
theorem dX0_tellSizes_150 : decode cX0_tellSizes 150 = .ok (.ifCond .eq 19, 3) := by decide +kernel
theorem dX0_tellSizes_153 : decode cX0_tellSizes 153 = .ok (.aload_n 3, 1) := by decide +kernel
theorem dX0_tellSizes_154 : decode cX0_tellSizes 154 = .ok (.aload_n 1, 1) := by decide +kernel
theorem dX0_tellSizes_155 : decode cX0_tellSizes 155 = .ok (.getfield 40, 3) := by decide +kernel
theorem dX0_tellSizes_158 : decode cX0_tellSizes 158 = .ok (.iload 4, 2) := by decide +kernel
theorem dX0_tellSizes_160 : decode cX0_tellSizes 160 = .ok (.iaload, 1) := by decide +kernel
theorem dX0_tellSizes_161 : decode cX0_tellSizes 161 = .ok (.dup2, 1) := by decide +kernel
theorem dX0_tellSizes_162 : decode cX0_tellSizes 162 = .ok (.iaload, 1) := by decide +kernel
theorem dX0_tellSizes_163 : decode cX0_tellSizes 163 = .ok (.aload_n 3, 1) := by decide +kernel
theorem dX0_tellSizes_164 : decode cX0_tellSizes 164 = .ok (.iload 4, 2) := by decide +kernel
theorem dX0_tellSizes_166 : decode cX0_tellSizes 166 = .ok (.iaload, 1) := by decide +kernel
theorem dX0_tellSizes_167 : decode cX0_tellSizes 167 = .ok (.iadd, 1) := by decide +kernel
theorem dX0_tellSizes_168 : decode cX0_tellSizes 168 = .ok (.iastore, 1) := by decide +kernel
theorem dX0_tellSizes_169 : decode cX0_tellSizes 169 = .ok (.iinc 4 (-1), 3) := by decide +kernel
theorem dX0_tellSizes_172 : decode cX0_tellSizes 172 = .ok (.goto (-38), 3) := by decide +kernel
theorem dX0_tellSizes_175 : decode cX0_tellSizes 175 = .ok (.return_, 1) := by decide +kernel
theorem dX1_init_0 : decode cX1_init 0 = .ok (.aload_n 0, 1) := by decide +kernel
theorem dX1_init_1 : decode cX1_init 1 = .ok (.invokespecial 3, 3) := by decide +kernel
theorem dX1_init_4 : decode cX1_init 4 = .ok (.aload_n 0, 1) := by decide +kernel
theorem dX1_init_5 : decode cX1_init 5 = .ok (.new 9, 3) := by decide +kernel
theorem dX1_init_8 : decode cX1_init 8 = .ok (.dup, 1) := by decide +kernel
theorem dX1_init_9 : decode cX1_init 9 = .ok (.invokespecial 11, 3) := by decide +kernel
theorem dX1_init_12 : decode cX1_init 12 = .ok (.putfield 12, 3) := by decide +kernel
theorem dX1_init_15 : decode cX1_init 15 = .ok (.return_, 1) := by decide +kernel
theorem dX1_lay_0 : decode cX1_lay 0 = .ok (.aload_n 0, 1) := by decide +kernel
theorem dX1_lay_1 : decode cX1_lay 1 = .ok (.getfield 12, 3) := by decide +kernel
theorem dX1_lay_4 : decode cX1_lay 4 = .ok (.iconst 0, 1) := by decide +kernel
theorem dX1_lay_5 : decode cX1_lay 5 = .ok (.putfield 18, 3) := by decide +kernel
theorem dX1_lay_8 : decode cX1_lay 8 = .ok (.aload_n 0, 1) := by decide +kernel
theorem dX1_lay_9 : decode cX1_lay 9 = .ok (.aload_n 1, 1) := by decide +kernel
theorem dX1_lay_10 : decode cX1_lay 10 = .ok (.iconst 0, 1) := by decide +kernel
theorem dX1_lay_11 : decode cX1_lay 11 = .ok (.aload_n 1, 1) := by decide +kernel
theorem dX1_lay_12 : decode cX1_lay 12 = .ok (.getfield 22, 3) := by decide +kernel
theorem dX1_lay_15 : decode cX1_lay 15 = .ok (.aload_n 1, 1) := by decide +kernel
theorem dX1_lay_16 : decode cX1_lay 16 = .ok (.getfield 27, 3) := by decide +kernel
theorem dX1_lay_19 : decode cX1_lay 19 = .ok (.aload_n 1, 1) := by decide +kernel
theorem dX1_lay_20 : decode cX1_lay 20 = .ok (.getfield 30, 3) := by decide +kernel
theorem dX1_lay_23 : decode cX1_lay 23 = .ok (.aload_n 1, 1) := by decide +kernel
theorem dX1_lay_24 : decode cX1_lay 24 = .ok (.getfield 33, 3) := by decide +kernel
theorem dX1_lay_27 : decode cX1_lay 27 = .ok (.aload_n 1, 1) := by decide +kernel
theorem dX1_lay_28 : decode cX1_lay 28 = .ok (.getfield 36, 3) := by decide +kernel
theorem dX1_lay_31 : decode cX1_lay 31 = .ok (.invokevirtual 39, 3) := by decide +kernel
theorem dX1_lay_34 : decode cX1_lay 34 = .ok (.return_, 1) := by decide +kernel
theorem dX1_layPart_0 : decode cX1_layPart 0 = .ok (.iload_n 3, 1) := by decide +kernel
theorem dX1_layPart_1 : decode cX1_layPart 1 = .ok (.iload_n 2, 1) := by decide +kernel
theorem dX1_layPart_2 : decode cX1_layPart 2 = .ok (.isub, 1) := by decide +kernel
theorem dX1_layPart_3 : decode cX1_layPart 3 = .ok (.iconst 1, 1) := by decide +kernel
theorem dX1_layPart_4 : decode cX1_layPart 4 = .ok (.if_icmp .gt 21, 3) := by decide +kernel
theorem dX1_layPart_7 : decode cX1_layPart 7 = .ok (.aload_n 0, 1) := by decide +kernel
theorem dX1_layPart_8 : decode cX1_layPart 8 = .ok (.getfield 12, 3) := by decide +kernel
theorem dX1_layPart_11 : decode cX1_layPart 11 = .ok (.aload_n 1, 1) := by decide +kernel
theorem dX1_layPart_12 : decode cX1_layPart 12 = .ok (.iload_n 2, 1) := by decide +kernel
theorem dX1_layPart_13 : decode cX1_layPart 13 = .ok (.iload 4, 2) := by decide +kernel
theorem dX1_layPart_15 : decode cX1_layPart 15 = .ok (.iload 5, 2) := by decide +kernel
theorem dX1_layPart_17 : decode cX1_layPart 17 = .ok (.iload 6, 2) := by decide +kernel
theorem dX1_layPart_19 : decode cX1_layPart 19 = .ok (.iload 7, 2) := by decide +kernel
theorem dX1_layPart_21 : decode cX1_layPart 21 = .ok (.invokevirtual 43, 3) := by decide +kernel
theorem dX1_layPart_24 : decode cX1_layPart 24 = .ok (.return_, 1) := by decide +kernel
theorem dX1_layPart_25 : decode cX1_layPart 25 = .ok (.ldc 49, 2) := by decide +kernel
theorem dX1_layPart_27 : decode cX1_layPart 27 = .ok (.istore 8, 2) := by decide +kernel
theorem dX1_layPart_29 : decode cX1_layPart 29 = .ok (.iload_n 2, 1) := by decide +kernel
theorem dX1_layPart_30 : decode cX1_layPart 30 = .ok (.iconst 1, 1) := by decide +kernel
theorem dX1_layPart_31 : decode cX1_layPart 31 = .ok (.iadd, 1) := by decide +kernel
theorem dX1_layPart_32 : decode cX1_layPart 32 = .ok (.istore 9, 2) := by decide +kernel
theorem dX1_layPart_34 : decode cX1_layPart 34 = .ok (.iconst 0, 1) := by decide +kernel
theorem dX1_layPart_35 : decode cX1_layPart 35 = .ok (.istore 10, 2) := by decide +kernel
theorem dX1_layPart_37 : decode cX1_layPart 37 = .ok (.iload_n 2, 1) := by decide +kernel
theorem dX1_layPart_38 : decode cX1_layPart 38 = .ok (.iconst 1, 1) := by decide +kernel
theorem dX1_layPart_39 : decode cX1_layPart 39 = .ok (.iadd, 1) := by decide +kernel
theorem dX1_layPart_40 : decode cX1_layPart 40 = .ok (.istore 11, 2) := by decide +kernel
theorem dX1_layPart_42 : decode cX1_layPart 42 = .ok (.iload 11, 2) := by decide +kernel
theorem dX1_layPart_44 : decode cX1_layPart 44 = .ok (.iload_n 3, 1) := by decide +kernel
theorem dX1_layPart_45 : decode cX1_layPart 45 = .ok (.if_icmp .ge 77, 3) := by decide +kernel
theorem dX1_layPart_48 : decode cX1_layPart 48 = .ok (.aload_n 1, 1) := by decide +kernel
theorem dX1_layPart_49 : decode cX1_layPart 49 = .ok (.iload_n 2, 1) := by decide +kernel
theorem dX1_layPart_50 : decode cX1_layPart 50 = .ok (.iload 11, 2) := by decide +kernel
theorem dX1_layPart_52 : decode cX1_layPart 52 = .ok (.iload_n 3, 1) := by decide +kernel
theorem dX1_layPart_53 : decode cX1_layPart 53 = .ok (.iload 6, 2) := by decide +kernel
theorem dX1_layPart_55 : decode cX1_layPart 55 = .ok (.iload 7, 2) := by decide +kernel
theorem dX1_layPart_57 : decode cX1_layPart 57 = .ok (.iload 8, 2) := by decide +kernel
theorem dX1_layPart_59 : decode cX1_layPart 59 = .ok (.invokestatic 50, 3) := by decide +kernel
theorem dX1_layPart_62 : decode cX1_layPart 62 = .ok (.istore 12, 2) := by decide +kernel
theorem dX1_layPart_64 : decode cX1_layPart 64 = .ok (.iload 12, 2) := by decide +kernel
theorem dX1_layPart_66 : decode cX1_layPart 66 = .ok (.iload 8, 2) := by decide +kernel
theorem dX1_layPart_68 : decode cX1_layPart 68 = .ok (.if_icmp .ge 14, 3) := by decide +kernel
theorem dX1_layPart_71 : decode cX1_layPart 71 = .ok (.iload 12, 2) := by decide +kernel
theorem dX1_layPart_73 : decode cX1_layPart 73 = .ok (.istore 8, 2) := by decide +kernel
theorem dX1_layPart_75 : decode cX1_layPart 75 = .ok (.iload 11, 2) := by decide +kernel
theorem dX1_layPart_77 : decode cX1_layPart 77 = .ok (.istore 9, 2) := by decide +kernel
theorem dX1_layPart_79 : decode cX1_layPart 79 = .ok (.iconst 0, 1) := by decide +kernel
theorem dX1_layPart_80 : decode cX1_layPart 80 = .ok (.istore 10, 2) := by decide +kernel
theorem dX1_layPart_82 : decode cX1_layPart 82 = .ok (.aload_n 1, 1) := by decide +kernel
theorem dX1_layPart_83 : decode cX1_layPart 83 = .ok (.iload_n 2, 1) := by decide +kernel
theorem dX1_layPart_84 : decode cX1_layPart 84 = .ok (.iload 11, 2) := by decide +kernel
theorem dX1_layPart_86 : decode cX1_layPart 86 = .ok (.iload_n 3, 1) := by decide +kernel
theorem dX1_layPart_87 : decode cX1_layPart 87 = .ok (.iload 7, 2) := by decide +kernel
theorem dX1_layPart_89 : decode cX1_layPart 89 = .ok (.iload 6, 2) := by decide +kernel
theorem dX1_layPart_91 : decode cX1_layPart 91 = .ok (.iload 8, 2) := by decide +kernel
theorem dX1_layPart_93 : decode cX1_layPart 93 = .ok (.invokestatic 50, 3) := by decide +kernel
theorem dX1_layPart_96 : decode cX1_layPart 96 = .ok (.istore 13, 2) := by decide +kernel
theorem dX1_layPart_98 : decode cX1_layPart 98 = .ok (.iload 13, 2) := by decide +kernel
theorem dX1_layPart_100 : decode cX1_layPart 100 = .ok (.iload 8, 2) := by decide +kernel
theorem dX1_layPart_102 : decode cX1_layPart 102 = .ok (.if_icmp .ge 14, 3) := by decide +kernel
theorem dX1_layPart_105 : decode cX1_layPart 105 = .ok (.iload 13, 2) := by decide +kernel
theorem dX1_layPart_107 : decode cX1_layPart 107 = .ok (.istore 8, 2) := by decide +kernel
theorem dX1_layPart_109 : decode cX1_layPart 109 = .ok (.iload 11, 2) := by decide +kernel
theorem dX1_layPart_111 : decode cX1_layPart 111 = .ok (.istore 9, 2) := by decide +kernel
theorem dX1_layPart_113 : decode cX1_layPart 113 = .ok (.iconst 1, 1) := by decide +kernel
theorem dX1_layPart_114 : decode cX1_layPart 114 = .ok (.istore 10, 2) := by decide +kernel
theorem dX1_layPart_116 : decode cX1_layPart 116 = .ok (.iinc 11 1, 3) := by decide +kernel
theorem dX1_layPart_119 : decode cX1_layPart 119 = .ok (.goto (-77), 3) := by decide +kernel
theorem dX1_layPart_122 : decode cX1_layPart 122 = .ok (.iload 10, 2) := by decide +kernel
theorem dX1_layPart_124 : decode cX1_layPart 124 = .ok (.ifCond .eq 8, 3) := by decide +kernel
theorem dX1_layPart_127 : decode cX1_layPart 127 = .ok (.iload 7, 2) := by decide +kernel
theorem dX1_layPart_129 : decode cX1_layPart 129 = .ok (.goto 5, 3) := by decide +kernel
theorem dX1_layPart_132 : decode cX1_layPart 132 = .ok (.iload 6, 2) := by decide +kernel
theorem dX1_layPart_134 : decode cX1_layPart 134 = .ok (.aload_n 1, 1) := by decide +kernel
theorem dX1_layPart_135 : decode cX1_layPart 135 = .ok (.iload_n 2, 1) := by decide +kernel
theorem dX1_layPart_136 : decode cX1_layPart 136 = .ok (.iload 9, 2) := by decide +kernel
theorem dX1_layPart_138 : decode cX1_layPart 138 = .ok (.invokevirtual 54, 3) := by decide +kernel
theorem dX1_layPart_141 : decode cX1_layPart 141 = .ok (.aload_n 1, 1) := by decide +kernel
theorem dX1_layPart_142 : decode cX1_layPart 142 = .ok (.iload_n 2, 1) := by decide +kernel
theorem dX1_layPart_143 : decode cX1_layPart 143 = .ok (.iload_n 3, 1) := by decide +kernel
theorem dX1_layPart_144 : decode cX1_layPart 144 = .ok (.invokevirtual 54, 3) := by decide +kernel
theorem dX1_layPart_147 : decode cX1_layPart 147 = .ok (.invokestatic 58, 3) := by decide +kernel
theorem dX1_layPart_150 : decode cX1_layPart 150 = .ok (.istore 11, 2) := by decide +kernel
theorem dX1_layPart_152 : decode cX1_layPart 152 = .ok (.iload 10, 2) := by decide +kernel
theorem dX1_layPart_154 : decode cX1_layPart 154 = .ok (.ifCond .eq 44, 3) := by decide +kernel
theorem dX1_layPart_157 : decode cX1_layPart 157 = .ok (.aload_n 0, 1) := by decide +kernel
theorem dX1_layPart_158 : decode cX1_layPart 158 = .ok (.aload_n 1, 1) := by decide +kernel
theorem dX1_layPart_159 : decode cX1_layPart 159 = .ok (.iload_n 2, 1) := by decide +kernel
theorem dX1_layPart_160 : decode cX1_layPart 160 = .ok (.iload 9, 2) := by decide +kernel
theorem dX1_layPart_162 : decode cX1_layPart 162 = .ok (.iload 4, 2) := by decide +kernel
theorem dX1_layPart_164 : decode cX1_layPart 164 = .ok (.iload 5, 2) := by decide +kernel
theorem dX1_layPart_166 : decode cX1_layPart 166 = .ok (.iload 6, 2) := by decide +kernel
theorem dX1_layPart_168 : decode cX1_layPart 168 = .ok (.iload 11, 2) := by decide +kernel
theorem dX1_layPart_170 : decode cX1_layPart 170 = .ok (.invokevirtual 39, 3) := by decide +kernel
theorem dX1_layPart_173 : decode cX1_layPart 173 = .ok (.aload_n 0, 1) := by decide +kernel
theorem dX1_layPart_174 : decode cX1_layPart 174 = .ok (.aload_n 1, 1) := by decide +kernel
theorem dX1_layPart_175 : decode cX1_layPart 175 = .ok (.iload 9, 2) := by decide +kernel
theorem dX1_layPart_177 : decode cX1_layPart 177 = .ok (.iload_n 3, 1) := by decide +kernel
theorem dX1_layPart_178 : decode cX1_layPart 178 = .ok (.iload 4, 2) := by decide +kernel
theorem dX1_layPart_180 : decode cX1_layPart 180 = .ok (.iload 5, 2) := by decide +kernel
theorem dX1_layPart_182 : decode cX1_layPart 182 = .ok (.iload 11, 2) := by decide +kernel
theorem dX1_layPart_184 : decode cX1_layPart 184 = .ok (.iadd, 1) := by decide +kernel
theorem dX1_layPart_185 : decode cX1_layPart 185 = .ok (.iload 6, 2) := by decide +kernel
theorem dX1_layPart_187 : decode cX1_layPart 187 = .ok (.iload 7, 2) := by decide +kernel
theorem dX1_layPart_189 : decode cX1_layPart 189 = .ok (.iload 11, 2) := by decide +kernel
theorem dX1_layPart_191 : decode cX1_layPart 191 = .ok (.isub, 1) := by decide +kernel
theorem dX1_layPart_192 : decode cX1_layPart 192 = .ok (.invokevirtual 39, 3) := by decide +kernel
theorem dX1_layPart_195 : decode cX1_layPart 195 = .ok (.goto 41, 3) := by decide +kernel
theorem dX1_layPart_198 : decode cX1_layPart 198 = .ok (.aload_n 0, 1) := by decide +kernel
theorem dX1_layPart_199 : decode cX1_layPart 199 = .ok (.aload_n 1, 1) := by decide +kernel
theorem dX1_layPart_200 : decode cX1_layPart 200 = .ok (.iload_n 2, 1) := by decide +kernel
theorem dX1_layPart_201 : decode cX1_layPart 201 = .ok (.iload 9, 2) := by decide +kernel
theorem dX1_layPart_203 : decode cX1_layPart 203 = .ok (.iload 4, 2) := by decide +kernel
theorem dX1_layPart_205 : decode cX1_layPart 205 = .ok (.iload 5, 2) := by decide +kernel
theorem dX1_layPart_207 : decode cX1_layPart 207 = .ok (.iload 11, 2) := by decide +kernel
theorem dX1_layPart_209 : decode cX1_layPart 209 = .ok (.iload 7, 2) := by decide +kernel
theorem dX1_layPart_211 : decode cX1_layPart 211 = .ok (.invokevirtual 39, 3) := by decide +kernel
theorem dX1_layPart_214 : decode cX1_layPart 214 = .ok (.aload_n 0, 1) := by decide +kernel
theorem dX1_layPart_215 : decode cX1_layPart 215 = .ok (.aload_n 1, 1) := by decide +kernel
theorem dX1_layPart_216 : decode cX1_layPart 216 = .ok (.iload 9, 2) := by decide +kernel
theorem dX1_layPart_218 : decode cX1_layPart 218 = .ok (.iload_n 3, 1) := by decide +kernel
theorem dX1_layPart_219 : decode cX1_layPart 219 = .ok (.iload 4, 2) := by decide +kernel
theorem dX1_layPart_221 : decode cX1_layPart 221 = .ok (.iload 11, 2) := by decide +kernel
theorem dX1_layPart_223 : decode cX1_layPart 223 = .ok (.iadd, 1) := by decide +kernel
theorem dX1_layPart_224 : decode cX1_layPart 224 = .ok (.iload 5, 2) := by decide +kernel
theorem dX1_layPart_226 : decode cX1_layPart 226 = .ok (.iload 6, 2) := by decide +kernel
theorem dX1_layPart_228 : decode cX1_layPart 228 = .ok (.iload 11, 2) := by decide +kernel
theorem dX1_layPart_230 : decode cX1_layPart 230 = .ok (.isub, 1) := by decide +kernel
theorem dX1_layPart_231 : decode cX1_layPart 231 = .ok (.iload 7, 2) := by decide +kernel
theorem dX1_layPart_233 : decode cX1_layPart 233 = .ok (.invokevirtual 39, 3) := by decide +kernel
theorem dX1_layPart_236 : decode cX1_layPart 236 = .ok (.return_, 1) := by decide +kernel
theorem dX1_worstOfCut_0 : decode cX1_worstOfCut 0 = .ok (.iload 4, 2) := by decide +kernel
theorem dX1_worstOfCut_2 : decode cX1_worstOfCut 2 = .ok (.aload_n 0, 1) := by decide +kernel
theorem dX1_worstOfCut_3 : decode cX1_worstOfCut 3 = .ok (.iload_n 1, 1) := by decide +kernel
theorem dX1_worstOfCut_4 : decode cX1_worstOfCut 4 = .ok (.iload_n 2, 1) := by decide +kernel
theorem dX1_worstOfCut_5 : decode cX1_worstOfCut 5 = .ok (.invokevirtual 54, 3) := by decide +kernel
theorem dX1_worstOfCut_8 : decode cX1_worstOfCut 8 = .ok (.aload_n 0, 1) := by decide +kernel
theorem dX1_worstOfCut_9 : decode cX1_worstOfCut 9 = .ok (.iload_n 1, 1) := by decide +kernel
theorem dX1_worstOfCut_10 : decode cX1_worstOfCut 10 = .ok (.iload_n 3, 1) := by decide +kernel
theorem dX1_worstOfCut_11 : decode cX1_worstOfCut 11 = .ok (.invokevirtual 54, 3) := by decide +kernel
theorem dX1_worstOfCut_14 : decode cX1_worstOfCut 14 = .ok (.invokestatic 58, 3) := by decide +kernel
theorem dX1_worstOfCut_17 : decode cX1_worstOfCut 17 = .ok (.istore 7, 2) := by decide +kernel
theorem dX1_worstOfCut_19 : decode cX1_worstOfCut 19 = .ok (.iload_n 2, 1) := by decide +kernel
theorem dX1_worstOfCut_20 : decode cX1_worstOfCut 20 = .ok (.iload_n 1, 1) := by decide +kernel
theorem dX1_worstOfCut_21 : decode cX1_worstOfCut 21 = .ok (.isub, 1) := by decide +kernel
theorem dX1_worstOfCut_22 : decode cX1_worstOfCut 22 = .ok (.iload_n 3, 1) := by decide +kernel
theorem dX1_worstOfCut_23 : decode cX1_worstOfCut 23 = .ok (.iload_n 2, 1) := by decide +kernel
theorem dX1_worstOfCut_24 : decode cX1_worstOfCut 24 = .ok (.isub, 1) := by decide +kernel
theorem dX1_worstOfCut_25 : decode cX1_worstOfCut 25 = .ok (.if_icmp .gt 7, 3) := by decide +kernel
theorem dX1_worstOfCut_28 : decode cX1_worstOfCut 28 = .ok (.iconst 1, 1) := by decide +kernel
theorem dX1_worstOfCut_29 : decode cX1_worstOfCut 29 = .ok (.goto 4, 3) := by decide +kernel
theorem dX1_worstOfCut_32 : decode cX1_worstOfCut 32 = .ok (.iconst 0, 1) := by decide +kernel
theorem dX1_worstOfCut_33 : decode cX1_worstOfCut 33 = .ok (.istore 8, 2) := by decide +kernel
theorem dX1_worstOfCut_35 : decode cX1_worstOfCut 35 = .ok (.iload 8, 2) := by decide +kernel
theorem dX1_worstOfCut_37 : decode cX1_worstOfCut 37 = .ok (.ifCond .eq 18, 3) := by decide +kernel
theorem dX1_worstOfCut_40 : decode cX1_worstOfCut 40 = .ok (.aload_n 0, 1) := by decide +kernel
theorem dX1_worstOfCut_41 : decode cX1_worstOfCut 41 = .ok (.iload_n 1, 1) := by decide +kernel
theorem dX1_worstOfCut_42 : decode cX1_worstOfCut 42 = .ok (.iload_n 2, 1) := by decide +kernel
theorem dX1_worstOfCut_43 : decode cX1_worstOfCut 43 = .ok (.iload 7, 2) := by decide +kernel
theorem dX1_worstOfCut_45 : decode cX1_worstOfCut 45 = .ok (.iload 5, 2) := by decide +kernel
theorem dX1_worstOfCut_47 : decode cX1_worstOfCut 47 = .ok (.iload 6, 2) := by decide +kernel
theorem dX1_worstOfCut_49 : decode cX1_worstOfCut 49 = .ok (.invokestatic 62, 3) := by decide +kernel
theorem dX1_worstOfCut_52 : decode cX1_worstOfCut 52 = .ok (.goto 18, 3) := by decide +kernel
theorem dX1_worstOfCut_55 : decode cX1_worstOfCut 55 = .ok (.aload_n 0, 1) := by decide +kernel
theorem dX1_worstOfCut_56 : decode cX1_worstOfCut 56 = .ok (.iload_n 2, 1) := by decide +kernel
theorem dX1_worstOfCut_57 : decode cX1_worstOfCut 57 = .ok (.iload_n 3, 1) := by decide +kernel
theorem dX1_worstOfCut_58 : decode cX1_worstOfCut 58 = .ok (.iload 4, 2) := by decide +kernel
theorem dX1_worstOfCut_60 : decode cX1_worstOfCut 60 = .ok (.iload 7, 2) := by decide +kernel
theorem dX1_worstOfCut_62 : decode cX1_worstOfCut 62 = .ok (.isub, 1) := by decide +kernel
theorem dX1_worstOfCut_63 : decode cX1_worstOfCut 63 = .ok (.iload 5, 2) := by decide +kernel
theorem dX1_worstOfCut_65 : decode cX1_worstOfCut 65 = .ok (.iload 6, 2) := by decide +kernel
theorem dX1_worstOfCut_67 : decode cX1_worstOfCut 67 = .ok (.invokestatic 62, 3) := by decide +kernel
theorem dX1_worstOfCut_70 : decode cX1_worstOfCut 70 = .ok (.istore 9, 2) := by decide +kernel
theorem dX1_worstOfCut_72 : decode cX1_worstOfCut 72 = .ok (.iload 9, 2) := by decide +kernel
theorem dX1_worstOfCut_74 : decode cX1_worstOfCut 74 = .ok (.iload 6, 2) := by decide +kernel
theorem dX1_worstOfCut_76 : decode cX1_worstOfCut 76 = .ok (.if_icmp .lt 6, 3) := by decide +kernel
theorem dX1_worstOfCut_79 : decode cX1_worstOfCut 79 = .ok (.iload 9, 2) := by decide +kernel
theorem dX1_worstOfCut_81 : decode cX1_worstOfCut 81 = .ok (.ireturn, 1) := by decide +kernel
theorem dX1_worstOfCut_82 : decode cX1_worstOfCut 82 = .ok (.iload 8, 2) := by decide +kernel
theorem dX1_worstOfCut_84 : decode cX1_worstOfCut 84 = .ok (.ifCond .eq 21, 3) := by decide +kernel
theorem dX1_worstOfCut_87 : decode cX1_worstOfCut 87 = .ok (.aload_n 0, 1) := by decide +kernel
theorem dX1_worstOfCut_88 : decode cX1_worstOfCut 88 = .ok (.iload_n 2, 1) := by decide +kernel
theorem dX1_worstOfCut_89 : decode cX1_worstOfCut 89 = .ok (.iload_n 3, 1) := by decide +kernel
theorem dX1_worstOfCut_90 : decode cX1_worstOfCut 90 = .ok (.iload 4, 2) := by decide +kernel
theorem dX1_worstOfCut_92 : decode cX1_worstOfCut 92 = .ok (.iload 7, 2) := by decide +kernel
theorem dX1_worstOfCut_94 : decode cX1_worstOfCut 94 = .ok (.isub, 1) := by decide +kernel
theorem dX1_worstOfCut_95 : decode cX1_worstOfCut 95 = .ok (.iload 5, 2) := by decide +kernel
theorem dX1_worstOfCut_97 : decode cX1_worstOfCut 97 = .ok (.iload 6, 2) := by decide +kernel
theorem dX1_worstOfCut_99 : decode cX1_worstOfCut 99 = .ok (.invokestatic 62, 3) := by decide +kernel
theorem dX1_worstOfCut_102 : decode cX1_worstOfCut 102 = .ok (.goto 15, 3) := by decide +kernel
theorem dX1_worstOfCut_105 : decode cX1_worstOfCut 105 = .ok (.aload_n 0, 1) := by decide +kernel
theorem dX1_worstOfCut_106 : decode cX1_worstOfCut 106 = .ok (.iload_n 1, 1) := by decide +kernel
theorem dX1_worstOfCut_107 : decode cX1_worstOfCut 107 = .ok (.iload_n 2, 1) := by decide +kernel
theorem dX1_worstOfCut_108 : decode cX1_worstOfCut 108 = .ok (.iload 7, 2) := by decide +kernel
theorem dX1_worstOfCut_110 : decode cX1_worstOfCut 110 = .ok (.iload 5, 2) := by decide +kernel
theorem dX1_worstOfCut_112 : decode cX1_worstOfCut 112 = .ok (.iload 6, 2) := by decide +kernel
theorem dX1_worstOfCut_114 : decode cX1_worstOfCut 114 = .ok (.invokestatic 62, 3) := by decide +kernel
theorem dX1_worstOfCut_117 : decode cX1_worstOfCut 117 = .ok (.istore 10, 2) := by decide +kernel
theorem dX1_worstOfCut_119 : decode cX1_worstOfCut 119 = .ok (.iload 9, 2) := by decide +kernel
theorem dX1_worstOfCut_121 : decode cX1_worstOfCut 121 = .ok (.iload 10, 2) := by decide +kernel
theorem dX1_worstOfCut_123 : decode cX1_worstOfCut 123 = .ok (.invokestatic 66, 3) := by decide +kernel
theorem dX1_worstOfCut_126 : decode cX1_worstOfCut 126 = .ok (.ireturn, 1) := by decide +kernel
theorem dX1_leastWorst_0 : decode cX1_leastWorst 0 = .ok (.iload_n 2, 1) := by decide +kernel
theorem dX1_leastWorst_1 : decode cX1_leastWorst 1 = .ok (.iload_n 1, 1) := by decide +kernel
theorem dX1_leastWorst_2 : decode cX1_leastWorst 2 = .ok (.isub, 1) := by decide +kernel
theorem dX1_leastWorst_3 : decode cX1_leastWorst 3 = .ok (.iconst 1, 1) := by decide +kernel
theorem dX1_leastWorst_4 : decode cX1_leastWorst 4 = .ok (.if_icmp .gt 16, 3) := by decide +kernel
theorem dX1_leastWorst_7 : decode cX1_leastWorst 7 = .ok (.aload_n 0, 1) := by decide +kernel
theorem dX1_leastWorst_8 : decode cX1_leastWorst 8 = .ok (.getfield 71, 3) := by decide +kernel
theorem dX1_leastWorst_11 : decode cX1_leastWorst 11 = .ok (.iload_n 1, 1) := by decide +kernel
theorem dX1_leastWorst_12 : decode cX1_leastWorst 12 = .ok (.iaload, 1) := by decide +kernel
theorem dX1_leastWorst_13 : decode cX1_leastWorst 13 = .ok (.iload_n 3, 1) := by decide +kernel
theorem dX1_leastWorst_14 : decode cX1_leastWorst 14 = .ok (.iload 4, 2) := by decide +kernel
theorem dX1_leastWorst_16 : decode cX1_leastWorst 16 = .ok (.invokestatic 75, 3) := by decide +kernel
theorem dX1_leastWorst_19 : decode cX1_leastWorst 19 = .ok (.ireturn, 1) := by decide +kernel
theorem dX1_leastWorst_20 : decode cX1_leastWorst 20 = .ok (.aload_n 0, 1) := by decide +kernel
theorem dX1_leastWorst_21 : decode cX1_leastWorst 21 = .ok (.iload_n 1, 1) := by decide +kernel
theorem dX1_leastWorst_22 : decode cX1_leastWorst 22 = .ok (.iload_n 2, 1) := by decide +kernel
theorem dX1_leastWorst_23 : decode cX1_leastWorst 23 = .ok (.invokevirtual 54, 3) := by decide +kernel
theorem dX1_leastWorst_26 : decode cX1_leastWorst 26 = .ok (.ifCond .ne 5, 3) := by decide +kernel
theorem dX1_leastWorst_29 : decode cX1_leastWorst 29 = .ok (.iconst 0, 1) := by decide +kernel
theorem dX1_leastWorst_30 : decode cX1_leastWorst 30 = .ok (.ireturn, 1) := by decide +kernel
theorem dX1_leastWorst_31 : decode cX1_leastWorst 31 = .ok (.iload_n 3, 1) := by decide +kernel
theorem dX1_leastWorst_32 : decode cX1_leastWorst 32 = .ok (.ifCond .eq 8, 3) := by decide +kernel
theorem dX1_leastWorst_35 : decode cX1_leastWorst 35 = .ok (.iload 4, 2) := by decide +kernel
theorem dX1_leastWorst_37 : decode cX1_leastWorst 37 = .ok (.ifCond .ne 6, 3) := by decide +kernel
theorem dX1_leastWorst_40 : decode cX1_leastWorst 40 = .ok (.ldc 78, 2) := by decide +kernel
theorem dX1_leastWorst_42 : decode cX1_leastWorst 42 = .ok (.ireturn, 1) := by decide +kernel
theorem dX1_leastWorst_43 : decode cX1_leastWorst 43 = .ok (.iload 5, 2) := by decide +kernel
theorem dX1_leastWorst_45 : decode cX1_leastWorst 45 = .ok (.istore 6, 2) := by decide +kernel
theorem dX1_leastWorst_47 : decode cX1_leastWorst 47 = .ok (.iload_n 1, 1) := by decide +kernel
theorem dX1_leastWorst_48 : decode cX1_leastWorst 48 = .ok (.iconst 1, 1) := by decide +kernel
theorem dX1_leastWorst_49 : decode cX1_leastWorst 49 = .ok (.iadd, 1) := by decide +kernel
theorem dX1_leastWorst_50 : decode cX1_leastWorst 50 = .ok (.istore 7, 2) := by decide +kernel
theorem dX1_leastWorst_52 : decode cX1_leastWorst 52 = .ok (.iload 7, 2) := by decide +kernel
theorem dX1_leastWorst_54 : decode cX1_leastWorst 54 = .ok (.iload_n 2, 1) := by decide +kernel
theorem dX1_leastWorst_55 : decode cX1_leastWorst 55 = .ok (.if_icmp .ge 49, 3) := by decide +kernel
theorem dX1_leastWorst_58 : decode cX1_leastWorst 58 = .ok (.iload 6, 2) := by decide +kernel
theorem dX1_leastWorst_60 : decode cX1_leastWorst 60 = .ok (.aload_n 0, 1) := by decide +kernel
theorem dX1_leastWorst_61 : decode cX1_leastWorst 61 = .ok (.iload_n 1, 1) := by decide +kernel
theorem dX1_leastWorst_62 : decode cX1_leastWorst 62 = .ok (.iload 7, 2) := by decide +kernel
theorem dX1_leastWorst_64 : decode cX1_leastWorst 64 = .ok (.iload_n 2, 1) := by decide +kernel
theorem dX1_leastWorst_65 : decode cX1_leastWorst 65 = .ok (.iload_n 3, 1) := by decide +kernel
theorem dX1_leastWorst_66 : decode cX1_leastWorst 66 = .ok (.iload 4, 2) := by decide +kernel
theorem dX1_leastWorst_68 : decode cX1_leastWorst 68 = .ok (.iload 6, 2) := by decide +kernel
theorem dX1_leastWorst_70 : decode cX1_leastWorst 70 = .ok (.invokestatic 50, 3) := by decide +kernel
theorem dX1_leastWorst_73 : decode cX1_leastWorst 73 = .ok (.invokestatic 79, 3) := by decide +kernel
theorem dX1_leastWorst_76 : decode cX1_leastWorst 76 = .ok (.istore 6, 2) := by decide +kernel
theorem dX1_leastWorst_78 : decode cX1_leastWorst 78 = .ok (.iload 6, 2) := by decide +kernel
theorem dX1_leastWorst_80 : decode cX1_leastWorst 80 = .ok (.aload_n 0, 1) := by decide +kernel
theorem dX1_leastWorst_81 : decode cX1_leastWorst 81 = .ok (.iload_n 1, 1) := by decide +kernel
theorem dX1_leastWorst_82 : decode cX1_leastWorst 82 = .ok (.iload 7, 2) := by decide +kernel
theorem dX1_leastWorst_84 : decode cX1_leastWorst 84 = .ok (.iload_n 2, 1) := by decide +kernel
theorem dX1_leastWorst_85 : decode cX1_leastWorst 85 = .ok (.iload 4, 2) := by decide +kernel
theorem dX1_leastWorst_87 : decode cX1_leastWorst 87 = .ok (.iload_n 3, 1) := by decide +kernel
theorem dX1_leastWorst_88 : decode cX1_leastWorst 88 = .ok (.iload 6, 2) := by decide +kernel
theorem dX1_leastWorst_90 : decode cX1_leastWorst 90 = .ok (.invokestatic 50, 3) := by decide +kernel
theorem dX1_leastWorst_93 : decode cX1_leastWorst 93 = .ok (.invokestatic 79, 3) := by decide +kernel
theorem dX1_leastWorst_96 : decode cX1_leastWorst 96 = .ok (.istore 6, 2) := by decide +kernel
theorem dX1_leastWorst_98 : decode cX1_leastWorst 98 = .ok (.iinc 7 1, 3) := by decide +kernel
theorem dX1_leastWorst_101 : decode cX1_leastWorst 101 = .ok (.goto (-49), 3) := by decide +kernel
theorem dX1_leastWorst_104 : decode cX1_leastWorst 104 = .ok (.iload 6, 2) := by decide +kernel
theorem dX1_leastWorst_106 : decode cX1_leastWorst 106 = .ok (.ireturn, 1) := by decide +kernel
theorem dX2_init_0 : decode cX2_init 0 = .ok (.aload_n 0, 1) := by decide +kernel
theorem dX2_init_1 : decode cX2_init 1 = .ok (.invokespecial 3, 3) := by decide +kernel
theorem dX2_init_4 : decode cX2_init 4 = .ok (.aload_n 0, 1) := by decide +kernel
theorem dX2_init_5 : decode cX2_init 5 = .ok (.iconst 0, 1) := by decide +kernel
theorem dX2_init_6 : decode cX2_init 6 = .ok (.putfield 9, 3) := by decide +kernel
theorem dX2_init_9 : decode cX2_init 9 = .ok (.aload_n 0, 1) := by decide +kernel
theorem dX2_init_10 : decode cX2_init 10 = .ok (.bipush 50, 2) := by decide +kernel
theorem dX2_init_12 : decode cX2_init 12 = .ok (.newarray .int, 2) := by decide +kernel
theorem dX2_init_14 : decode cX2_init 14 = .ok (.putfield 15, 3) := by decide +kernel
theorem dX2_init_17 : decode cX2_init 17 = .ok (.aload_n 0, 1) := by decide +kernel
theorem dX2_init_18 : decode cX2_init 18 = .ok (.new 19, 3) := by decide +kernel
theorem dX2_init_21 : decode cX2_init 21 = .ok (.dup, 1) := by decide +kernel
theorem dX2_init_22 : decode cX2_init 22 = .ok (.sipush 2000, 3) := by decide +kernel
theorem dX2_init_25 : decode cX2_init 25 = .ok (.invokespecial 21, 3) := by decide +kernel
theorem dX2_init_28 : decode cX2_init 28 = .ok (.putfield 24, 3) := by decide +kernel
theorem dX2_init_31 : decode cX2_init 31 = .ok (.aload_n 0, 1) := by decide +kernel
theorem dX2_init_32 : decode cX2_init 32 = .ok (.sipush 2000, 3) := by decide +kernel
theorem dX2_init_35 : decode cX2_init 35 = .ok (.newarray .boolean, 2) := by decide +kernel
theorem dX2_init_37 : decode cX2_init 37 = .ok (.putfield 28, 3) := by decide +kernel
theorem dX2_init_40 : decode cX2_init 40 = .ok (.aload_n 0, 1) := by decide +kernel
theorem dX2_init_41 : decode cX2_init 41 = .ok (.bipush 40, 2) := by decide +kernel
theorem dX2_init_43 : decode cX2_init 43 = .ok (.newarray .int, 2) := by decide +kernel
theorem dX2_init_45 : decode cX2_init 45 = .ok (.putfield 32, 3) := by decide +kernel
theorem dX2_init_48 : decode cX2_init 48 = .ok (.aload_n 0, 1) := by decide +kernel
theorem dX2_init_49 : decode cX2_init 49 = .ok (.bipush 40, 2) := by decide +kernel
theorem dX2_init_51 : decode cX2_init 51 = .ok (.newarray .int, 2) := by decide +kernel
theorem dX2_init_53 : decode cX2_init 53 = .ok (.putfield 35, 3) := by decide +kernel
theorem dX2_init_56 : decode cX2_init 56 = .ok (.aload_n 0, 1) := by decide +kernel
theorem dX2_init_57 : decode cX2_init 57 = .ok (.new 19, 3) := by decide +kernel
theorem dX2_init_60 : decode cX2_init 60 = .ok (.dup, 1) := by decide +kernel
theorem dX2_init_61 : decode cX2_init 61 = .ok (.bipush 40, 2) := by decide +kernel
theorem dX2_init_63 : decode cX2_init 63 = .ok (.invokespecial 21, 3) := by decide +kernel
theorem dX2_init_66 : decode cX2_init 66 = .ok (.putfield 38, 3) := by decide +kernel
theorem dX2_init_69 : decode cX2_init 69 = .ok (.aload_n 0, 1) := by decide +kernel
theorem dX2_init_70 : decode cX2_init 70 = .ok (.bipush 40, 2) := by decide +kernel
theorem dX2_init_72 : decode cX2_init 72 = .ok (.newarray .int, 2) := by decide +kernel
theorem dX2_init_74 : decode cX2_init 74 = .ok (.putfield 41, 3) := by decide +kernel
theorem dX2_init_77 : decode cX2_init 77 = .ok (.return_, 1) := by decide +kernel
theorem dX2_keeps_0 : decode cX2_keeps 0 = .ok (.iload_n 1, 1) := by decide +kernel
theorem dX2_keeps_1 : decode cX2_keeps 1 = .ok (.ifCond .lt 26, 3) := by decide +kernel
theorem dX2_keeps_4 : decode cX2_keeps 4 = .ok (.iload_n 1, 1) := by decide +kernel
theorem dX2_keeps_5 : decode cX2_keeps 5 = .ok (.aload_n 0, 1) := by decide +kernel
theorem dX2_keeps_6 : decode cX2_keeps 6 = .ok (.getfield 9, 3) := by decide +kernel
theorem dX2_keeps_9 : decode cX2_keeps 9 = .ok (.if_icmp .ge 18, 3) := by decide +kernel
theorem dX2_keeps_12 : decode cX2_keeps 12 = .ok (.iload_n 1, 1) := by decide +kernel
theorem dX2_keeps_13 : decode cX2_keeps 13 = .ok (.aload_n 0, 1) := by decide +kernel
theorem dX2_keeps_14 : decode cX2_keeps 14 = .ok (.getfield 9, 3) := by decide +kernel
theorem dX2_keeps_17 : decode cX2_keeps 17 = .ok (.bipush 50, 2) := by decide +kernel
theorem dX2_keeps_19 : decode cX2_keeps 19 = .ok (.isub, 1) := by decide +kernel
theorem dX2_keeps_20 : decode cX2_keeps 20 = .ok (.if_icmp .lt 7, 3) := by decide +kernel
theorem dX2_keeps_23 : decode cX2_keeps 23 = .ok (.iconst 1, 1) := by decide +kernel
theorem dX2_keeps_24 : decode cX2_keeps 24 = .ok (.goto 4, 3) := by decide +kernel
theorem dX2_keeps_27 : decode cX2_keeps 27 = .ok (.iconst 0, 1) := by decide +kernel
theorem dX2_keeps_28 : decode cX2_keeps 28 = .ok (.ireturn, 1) := by decide +kernel
theorem dX2_cell_0 : decode cX2_cell 0 = .ok (.iload_n 1, 1) := by decide +kernel
theorem dX2_cell_1 : decode cX2_cell 1 = .ok (.bipush 50, 2) := by decide +kernel
theorem dX2_cell_3 : decode cX2_cell 3 = .ok (.irem, 1) := by decide +kernel
theorem dX2_cell_4 : decode cX2_cell 4 = .ok (.bipush 40, 2) := by decide +kernel
theorem dX2_cell_6 : decode cX2_cell 6 = .ok (.imul, 1) := by decide +kernel
theorem dX2_cell_7 : decode cX2_cell 7 = .ok (.iload_n 2, 1) := by decide +kernel
theorem dX2_cell_8 : decode cX2_cell 8 = .ok (.iadd, 1) := by decide +kernel
theorem dX2_cell_9 : decode cX2_cell 9 = .ok (.ireturn, 1) := by decide +kernel
theorem dX2_latestCell_0 : decode cX2_latestCell 0 = .ok (.aload_n 0, 1) := by decide +kernel
theorem dX2_latestCell_1 : decode cX2_latestCell 1 = .ok (.getfield 9, 3) := by decide +kernel
theorem dX2_latestCell_4 : decode cX2_latestCell 4 = .ok (.ifCond .le 17, 3) := by decide +kernel
theorem dX2_latestCell_7 : decode cX2_latestCell 7 = .ok (.aload_n 0, 1) := by decide +kernel
theorem dX2_latestCell_8 : decode cX2_latestCell 8 = .ok (.aload_n 0, 1) := by decide +kernel
theorem dX2_latestCell_9 : decode cX2_latestCell 9 = .ok (.getfield 9, 3) := by decide +kernel
theorem dX2_latestCell_12 : decode cX2_latestCell 12 = .ok (.iconst 1, 1) := by decide +kernel
theorem dX2_latestCell_13 : decode cX2_latestCell 13 = .ok (.isub, 1) := by decide +kernel
theorem dX2_latestCell_14 : decode cX2_latestCell 14 = .ok (.iload_n 1, 1) := by decide +kernel
theorem dX2_latestCell_15 : decode cX2_latestCell 15 = .ok (.invokevirtual 44, 3) := by decide +kernel
theorem dX2_latestCell_18 : decode cX2_latestCell 18 = .ok (.goto 4, 3) := by decide +kernel
theorem dX2_latestCell_21 : decode cX2_latestCell 21 = .ok (.iload_n 1, 1) := by decide +kernel
theorem dX2_latestCell_22 : decode cX2_latestCell 22 = .ok (.ireturn, 1) := by decide +kernel
theorem dX2_begin_0 : decode cX2_begin 0 = .ok (.aload_n 0, 1) := by decide +kernel
theorem dX2_begin_1 : decode cX2_begin 1 = .ok (.getfield 15, 3) := by decide +kernel
theorem dX2_begin_4 : decode cX2_begin 4 = .ok (.aload_n 0, 1) := by decide +kernel
theorem dX2_begin_5 : decode cX2_begin 5 = .ok (.getfield 9, 3) := by decide +kernel
theorem dX2_begin_8 : decode cX2_begin 8 = .ok (.bipush 50, 2) := by decide +kernel
theorem dX2_begin_10 : decode cX2_begin 10 = .ok (.irem, 1) := by decide +kernel
theorem dX2_begin_11 : decode cX2_begin 11 = .ok (.iload_n 1, 1) := by decide +kernel
theorem dX2_begin_12 : decode cX2_begin 12 = .ok (.iastore, 1) := by decide +kernel
theorem dX2_begin_13 : decode cX2_begin 13 = .ok (.aload_n 0, 1) := by decide +kernel
theorem dX2_begin_14 : decode cX2_begin 14 = .ok (.dup, 1) := by decide +kernel
theorem dX2_begin_15 : decode cX2_begin 15 = .ok (.getfield 9, 3) := by decide +kernel
theorem dX2_begin_18 : decode cX2_begin 18 = .ok (.iconst 1, 1) := by decide +kernel
theorem dX2_begin_19 : decode cX2_begin 19 = .ok (.iadd, 1) := by decide +kernel
theorem dX2_begin_20 : decode cX2_begin 20 = .ok (.putfield 9, 3) := by decide +kernel
theorem dX2_begin_23 : decode cX2_begin 23 = .ok (.iconst 0, 1) := by decide +kernel
theorem dX2_begin_24 : decode cX2_begin 24 = .ok (.istore 4, 2) := by decide +kernel
theorem dX2_begin_26 : decode cX2_begin 26 = .ok (.iload 4, 2) := by decide +kernel
theorem dX2_begin_28 : decode cX2_begin 28 = .ok (.iload_n 2, 1) := by decide +kernel
theorem dX2_begin_29 : decode cX2_begin 29 = .ok (.if_icmp .ge 39, 3) := by decide +kernel
theorem dX2_begin_32 : decode cX2_begin 32 = .ok (.aload_n 0, 1) := by decide +kernel
theorem dX2_begin_33 : decode cX2_begin 33 = .ok (.iload 4, 2) := by decide +kernel
theorem dX2_begin_35 : decode cX2_begin 35 = .ok (.invokevirtual 48, 3) := by decide +kernel
theorem dX2_begin_38 : decode cX2_begin 38 = .ok (.istore 5, 2) := by decide +kernel
theorem dX2_begin_40 : decode cX2_begin 40 = .ok (.aload_n 0, 1) := by decide +kernel
theorem dX2_begin_41 : decode cX2_begin 41 = .ok (.getfield 24, 3) := by decide +kernel
theorem dX2_begin_44 : decode cX2_begin 44 = .ok (.getfield 52, 3) := by decide +kernel
theorem dX2_begin_47 : decode cX2_begin 47 = .ok (.iload 5, 2) := by decide +kernel
theorem dX2_begin_49 : decode cX2_begin 49 = .ok (.aload_n 3, 1) := by decide +kernel
theorem dX2_begin_50 : decode cX2_begin 50 = .ok (.iload 4, 2) := by decide +kernel
theorem dX2_begin_52 : decode cX2_begin 52 = .ok (.iaload, 1) := by decide +kernel
theorem dX2_begin_53 : decode cX2_begin 53 = .ok (.iastore, 1) := by decide +kernel
theorem dX2_begin_54 : decode cX2_begin 54 = .ok (.aload_n 0, 1) := by decide +kernel
theorem dX2_begin_55 : decode cX2_begin 55 = .ok (.getfield 28, 3) := by decide +kernel
theorem dX2_begin_58 : decode cX2_begin 58 = .ok (.iload 5, 2) := by decide +kernel
theorem dX2_begin_60 : decode cX2_begin 60 = .ok (.iconst 0, 1) := by decide +kernel
theorem dX2_begin_61 : decode cX2_begin 61 = .ok (.bastore, 1) := by decide +kernel
theorem dX2_begin_62 : decode cX2_begin 62 = .ok (.iinc 4 1, 3) := by decide +kernel
theorem dX2_begin_65 : decode cX2_begin 65 = .ok (.goto (-39), 3) := by decide +kernel
theorem dX2_begin_68 : decode cX2_begin 68 = .ok (.return_, 1) := by decide +kernel
theorem dX2_show_0 : decode cX2_show 0 = .ok (.aload_n 0, 1) := by decide +kernel
theorem dX2_show_1 : decode cX2_show 1 = .ok (.iload_n 1, 1) := by decide +kernel
theorem dX2_show_2 : decode cX2_show 2 = .ok (.invokevirtual 48, 3) := by decide +kernel
theorem dX2_show_5 : decode cX2_show 5 = .ok (.istore 6, 2) := by decide +kernel
theorem dX2_show_7 : decode cX2_show 7 = .ok (.aload_n 0, 1) := by decide +kernel
theorem dX2_show_8 : decode cX2_show 8 = .ok (.getfield 24, 3) := by decide +kernel
theorem dX2_show_11 : decode cX2_show 11 = .ok (.iload 6, 2) := by decide +kernel
theorem dX2_show_13 : decode cX2_show 13 = .ok (.iload_n 2, 1) := by decide +kernel
theorem dX2_show_14 : decode cX2_show 14 = .ok (.iload_n 3, 1) := by decide +kernel
theorem dX2_show_15 : decode cX2_show 15 = .ok (.iload 4, 2) := by decide +kernel
theorem dX2_show_17 : decode cX2_show 17 = .ok (.iload 5, 2) := by decide +kernel
theorem dX2_show_19 : decode cX2_show 19 = .ok (.invokevirtual 55, 3) := by decide +kernel
theorem dX2_show_22 : decode cX2_show 22 = .ok (.aload_n 0, 1) := by decide +kernel
theorem dX2_show_23 : decode cX2_show 23 = .ok (.getfield 28, 3) := by decide +kernel
theorem dX2_show_26 : decode cX2_show 26 = .ok (.iload 6, 2) := by decide +kernel
theorem dX2_show_28 : decode cX2_show 28 = .ok (.iconst 1, 1) := by decide +kernel
theorem dX2_show_29 : decode cX2_show 29 = .ok (.bastore, 1) := by decide +kernel
theorem dX2_show_30 : decode cX2_show 30 = .ok (.return_, 1) := by decide +kernel
theorem dX2_hasRest_0 : decode cX2_hasRest 0 = .ok (.aload_n 1, 1) := by decide +kernel
theorem dX2_hasRest_1 : decode cX2_hasRest 1 = .ok (.iload_n 2, 1) := by decide +kernel
theorem dX2_hasRest_2 : decode cX2_hasRest 2 = .ok (.invokevirtual 59, 3) := by decide +kernel
theorem dX2_hasRest_5 : decode cX2_hasRest 5 = .ok (.ifCond .eq 16, 3) := by decide +kernel
theorem dX2_hasRest_8 : decode cX2_hasRest 8 = .ok (.aload_n 0, 1) := by decide +kernel
theorem dX2_hasRest_9 : decode cX2_hasRest 9 = .ok (.getfield 41, 3) := by decide +kernel
theorem dX2_hasRest_12 : decode cX2_hasRest 12 = .ok (.iload_n 2, 1) := by decide +kernel
theorem dX2_hasRest_13 : decode cX2_hasRest 13 = .ok (.iaload, 1) := by decide +kernel
theorem dX2_hasRest_14 : decode cX2_hasRest 14 = .ok (.ifCond .le 7, 3) := by decide +kernel
theorem dX2_hasRest_17 : decode cX2_hasRest 17 = .ok (.iconst 1, 1) := by decide +kernel
theorem dX2_hasRest_18 : decode cX2_hasRest 18 = .ok (.goto 4, 3) := by decide +kernel
theorem dX2_hasRest_21 : decode cX2_hasRest 21 = .ok (.iconst 0, 1) := by decide +kernel
theorem dX2_hasRest_22 : decode cX2_hasRest 22 = .ok (.ireturn, 1) := by decide +kernel
theorem dX2_countShown_0 : decode cX2_countShown 0 = .ok (.iconst 0, 1) := by decide +kernel
theorem dX2_countShown_1 : decode cX2_countShown 1 = .ok (.istore_n 2, 1) := by decide +kernel
theorem dX2_countShown_2 : decode cX2_countShown 2 = .ok (.iconst 0, 1) := by decide +kernel
theorem dX2_countShown_3 : decode cX2_countShown 3 = .ok (.istore_n 3, 1) := by decide +kernel
theorem dX2_countShown_4 : decode cX2_countShown 4 = .ok (.iload_n 3, 1) := by decide +kernel
theorem dX2_countShown_5 : decode cX2_countShown 5 = .ok (.aload_n 1, 1) := by decide +kernel
theorem dX2_countShown_6 : decode cX2_countShown 6 = .ok (.getfield 65, 3) := by decide +kernel
theorem dX2_countShown_9 : decode cX2_countShown 9 = .ok (.if_icmp .ge 32, 3) := by decide +kernel
theorem dX2_countShown_12 : decode cX2_countShown 12 = .ok (.aload_n 0, 1) := by decide +kernel
theorem dX2_countShown_13 : decode cX2_countShown 13 = .ok (.getfield 9, 3) := by decide +kernel
theorem dX2_countShown_16 : decode cX2_countShown 16 = .ok (.ifCond .le 25, 3) := by decide +kernel
theorem dX2_countShown_19 : decode cX2_countShown 19 = .ok (.aload_n 0, 1) := by decide +kernel
theorem dX2_countShown_20 : decode cX2_countShown 20 = .ok (.getfield 28, 3) := by decide +kernel
theorem dX2_countShown_23 : decode cX2_countShown 23 = .ok (.aload_n 0, 1) := by decide +kernel
theorem dX2_countShown_24 : decode cX2_countShown 24 = .ok (.iload_n 3, 1) := by decide +kernel
theorem dX2_countShown_25 : decode cX2_countShown 25 = .ok (.invokevirtual 48, 3) := by decide +kernel
theorem dX2_countShown_28 : decode cX2_countShown 28 = .ok (.baload, 1) := by decide +kernel
theorem dX2_countShown_29 : decode cX2_countShown 29 = .ok (.ifCond .eq 6, 3) := by decide +kernel
theorem dX2_countShown_32 : decode cX2_countShown 32 = .ok (.iinc 2 1, 3) := by decide +kernel
theorem dX2_countShown_35 : decode cX2_countShown 35 = .ok (.iinc 3 1, 3) := by decide +kernel
theorem dX2_countShown_38 : decode cX2_countShown 38 = .ok (.goto (-34), 3) := by decide +kernel
theorem dX2_countShown_41 : decode cX2_countShown 41 = .ok (.iload_n 2, 1) := by decide +kernel
theorem dX2_countShown_42 : decode cX2_countShown 42 = .ok (.ireturn, 1) := by decide +kernel
theorem dX2_greatestWorst_0 : decode cX2_greatestWorst 0 = .ok (.iconst 0, 1) := by decide +kernel
theorem dX2_greatestWorst_1 : decode cX2_greatestWorst 1 = .ok (.istore_n 2, 1) := by decide +kernel
theorem dX2_greatestWorst_2 : decode cX2_greatestWorst 2 = .ok (.iconst 0, 1) := by decide +kernel
theorem dX2_greatestWorst_3 : decode cX2_greatestWorst 3 = .ok (.istore_n 3, 1) := by decide +kernel
theorem dX2_greatestWorst_4 : decode cX2_greatestWorst 4 = .ok (.iload_n 3, 1) := by decide +kernel
theorem dX2_greatestWorst_5 : decode cX2_greatestWorst 5 = .ok (.aload_n 1, 1) := by decide +kernel
theorem dX2_greatestWorst_6 : decode cX2_greatestWorst 6 = .ok (.getfield 65, 3) := by decide +kernel
theorem dX2_greatestWorst_9 : decode cX2_greatestWorst 9 = .ok (.if_icmp .ge 35, 3) := by decide +kernel
theorem dX2_greatestWorst_12 : decode cX2_greatestWorst 12 = .ok (.aload_n 0, 1) := by decide +kernel
theorem dX2_greatestWorst_13 : decode cX2_greatestWorst 13 = .ok (.getfield 9, 3) := by decide +kernel
theorem dX2_greatestWorst_16 : decode cX2_greatestWorst 16 = .ok (.ifCond .le 28, 3) := by decide +kernel
theorem dX2_greatestWorst_19 : decode cX2_greatestWorst 19 = .ok (.aload_n 1, 1) := by decide +kernel
theorem dX2_greatestWorst_20 : decode cX2_greatestWorst 20 = .ok (.iload_n 3, 1) := by decide +kernel
theorem dX2_greatestWorst_21 : decode cX2_greatestWorst 21 = .ok (.invokevirtual 59, 3) := by decide +kernel
theorem dX2_greatestWorst_24 : decode cX2_greatestWorst 24 = .ok (.ifCond .eq 14, 3) := by decide +kernel
theorem dX2_greatestWorst_27 : decode cX2_greatestWorst 27 = .ok (.iload_n 2, 1) := by decide +kernel
theorem dX2_greatestWorst_28 : decode cX2_greatestWorst 28 = .ok (.aload_n 0, 1) := by decide +kernel
theorem dX2_greatestWorst_29 : decode cX2_greatestWorst 29 = .ok (.getfield 35, 3) := by decide +kernel
theorem dX2_greatestWorst_32 : decode cX2_greatestWorst 32 = .ok (.iload_n 3, 1) := by decide +kernel
theorem dX2_greatestWorst_33 : decode cX2_greatestWorst 33 = .ok (.iaload, 1) := by decide +kernel
theorem dX2_greatestWorst_34 : decode cX2_greatestWorst 34 = .ok (.invokestatic 67, 3) := by decide +kernel
theorem dX2_greatestWorst_37 : decode cX2_greatestWorst 37 = .ok (.istore_n 2, 1) := by decide +kernel
theorem dX2_greatestWorst_38 : decode cX2_greatestWorst 38 = .ok (.iinc 3 1, 3) := by decide +kernel
theorem dX2_greatestWorst_41 : decode cX2_greatestWorst 41 = .ok (.goto (-37), 3) := by decide +kernel
theorem dX2_greatestWorst_44 : decode cX2_greatestWorst 44 = .ok (.iload_n 2, 1) := by decide +kernel
theorem dX2_greatestWorst_45 : decode cX2_greatestWorst 45 = .ok (.ireturn, 1) := by decide +kernel
theorem dX3_init_0 : decode cX3_init 0 = .ok (.aload_n 0, 1) := by decide +kernel
theorem dX3_init_1 : decode cX3_init 1 = .ok (.invokespecial 3, 3) := by decide +kernel
theorem dX3_init_4 : decode cX3_init 4 = .ok (.aload_n 0, 1) := by decide +kernel
theorem dX3_init_5 : decode cX3_init 5 = .ok (.iconst 0, 1) := by decide +kernel
theorem dX3_init_6 : decode cX3_init 6 = .ok (.putfield 9, 3) := by decide +kernel
theorem dX3_init_9 : decode cX3_init 9 = .ok (.aload_n 0, 1) := by decide +kernel
theorem dX3_init_10 : decode cX3_init 10 = .ok (.iconst 0, 1) := by decide +kernel
theorem dX3_init_11 : decode cX3_init 11 = .ok (.putfield 15, 3) := by decide +kernel
theorem dX3_init_14 : decode cX3_init 14 = .ok (.aload_n 0, 1) := by decide +kernel
theorem dX3_init_15 : decode cX3_init 15 = .ok (.bipush 8, 2) := by decide +kernel
theorem dX3_init_17 : decode cX3_init 17 = .ok (.newarray .int, 2) := by decide +kernel
theorem dX3_init_19 : decode cX3_init 19 = .ok (.putfield 18, 3) := by decide +kernel
theorem dX3_init_22 : decode cX3_init 22 = .ok (.aload_n 0, 1) := by decide +kernel
theorem dX3_init_23 : decode cX3_init 23 = .ok (.bipush 8, 2) := by decide +kernel
theorem dX3_init_25 : decode cX3_init 25 = .ok (.newarray .int, 2) := by decide +kernel
theorem dX3_init_27 : decode cX3_init 27 = .ok (.putfield 22, 3) := by decide +kernel
theorem dX3_init_30 : decode cX3_init 30 = .ok (.aload_n 0, 1) := by decide +kernel
theorem dX3_init_31 : decode cX3_init 31 = .ok (.iconst 0, 1) := by decide +kernel
theorem dX3_init_32 : decode cX3_init 32 = .ok (.putfield 25, 3) := by decide +kernel
theorem dX3_init_35 : decode cX3_init 35 = .ok (.aload_n 0, 1) := by decide +kernel
theorem dX3_init_36 : decode cX3_init 36 = .ok (.iconst 0, 1) := by decide +kernel
theorem dX3_init_37 : decode cX3_init 37 = .ok (.putfield 28, 3) := by decide +kernel
theorem dX3_init_40 : decode cX3_init 40 = .ok (.aload_n 0, 1) := by decide +kernel
theorem dX3_init_41 : decode cX3_init 41 = .ok (.iconst 0, 1) := by decide +kernel
theorem dX3_init_42 : decode cX3_init 42 = .ok (.putfield 31, 3) := by decide +kernel
theorem dX3_init_45 : decode cX3_init 45 = .ok (.aload_n 0, 1) := by decide +kernel
theorem dX3_init_46 : decode cX3_init 46 = .ok (.iconst 0, 1) := by decide +kernel
theorem dX3_init_47 : decode cX3_init 47 = .ok (.putfield 34, 3) := by decide +kernel
theorem dX3_init_50 : decode cX3_init 50 = .ok (.aload_n 0, 1) := by decide +kernel
theorem dX3_init_51 : decode cX3_init 51 = .ok (.bipush 9, 2) := by decide +kernel
theorem dX3_init_53 : decode cX3_init 53 = .ok (.newarray .int, 2) := by decide +kernel
theorem dX3_init_55 : decode cX3_init 55 = .ok (.putfield 37, 3) := by decide +kernel
theorem dX3_init_58 : decode cX3_init 58 = .ok (.return_, 1) := by decide +kernel
theorem dX3_gather_0 : decode cX3_gather 0 = .ok (.aload_n 0, 1) := by decide +kernel
theorem dX3_gather_1 : decode cX3_gather 1 = .ok (.iconst 0, 1) := by decide +kernel
theorem dX3_gather_2 : decode cX3_gather 2 = .ok (.putfield 9, 3) := by decide +kernel
theorem dX3_gather_5 : decode cX3_gather 5 = .ok (.aload_n 1, 1) := by decide +kernel
theorem dX3_gather_6 : decode cX3_gather 6 = .ok (.getfield 40, 3) := by decide +kernel
theorem dX3_gather_9 : decode cX3_gather 9 = .ok (.iload_n 2, 1) := by decide +kernel
theorem dX3_gather_10 : decode cX3_gather 10 = .ok (.baload, 1) := by decide +kernel
theorem dX3_gather_11 : decode cX3_gather 11 = .ok (.ifCond .eq 7, 3) := by decide +kernel
theorem dX3_gather_14 : decode cX3_gather 14 = .ok (.iconst 0, 1) := by decide +kernel
theorem dX3_gather_15 : decode cX3_gather 15 = .ok (.goto 9, 3) := by decide +kernel
theorem dX3_gather_18 : decode cX3_gather 18 = .ok (.aload_n 1, 1) := by decide +kernel
theorem dX3_gather_19 : decode cX3_gather 19 = .ok (.iload_n 2, 1) := by decide +kernel
theorem dX3_gather_20 : decode cX3_gather 20 = .ok (.aload_n 3, 1) := by decide +kernel
theorem dX3_gather_21 : decode cX3_gather 21 = .ok (.invokestatic 46, 3) := by decide +kernel
theorem dX3_gather_24 : decode cX3_gather 24 = .ok (.istore 4, 2) := by decide +kernel
theorem dX3_gather_26 : decode cX3_gather 26 = .ok (.aload_n 0, 1) := by decide +kernel
theorem dX3_gather_27 : decode cX3_gather 27 = .ok (.iload 4, 2) := by decide +kernel
theorem dX3_gather_29 : decode cX3_gather 29 = .ok (.iconst 2, 1) := by decide +kernel
theorem dX3_gather_30 : decode cX3_gather 30 = .ok (.if_icmp .lt 8, 3) := by decide +kernel
theorem dX3_gather_33 : decode cX3_gather 33 = .ok (.iload 4, 2) := by decide +kernel
theorem dX3_gather_35 : decode cX3_gather 35 = .ok (.goto 4, 3) := by decide +kernel
theorem dX3_gather_38 : decode cX3_gather 38 = .ok (.iconst 0, 1) := by decide +kernel
theorem dX3_gather_39 : decode cX3_gather 39 = .ok (.putfield 15, 3) := by decide +kernel
theorem dX3_gather_42 : decode cX3_gather 42 = .ok (.iconst 0, 1) := by decide +kernel
theorem dX3_gather_43 : decode cX3_gather 43 = .ok (.istore 5, 2) := by decide +kernel
theorem dX3_gather_45 : decode cX3_gather 45 = .ok (.iload_n 2, 1) := by decide +kernel
theorem dX3_gather_46 : decode cX3_gather 46 = .ok (.iconst 1, 1) := by decide +kernel
theorem dX3_gather_47 : decode cX3_gather 47 = .ok (.iadd, 1) := by decide +kernel
theorem dX3_gather_48 : decode cX3_gather 48 = .ok (.istore 6, 2) := by decide +kernel
theorem dX3_gather_50 : decode cX3_gather 50 = .ok (.iload 6, 2) := by decide +kernel
theorem dX3_gather_52 : decode cX3_gather 52 = .ok (.aload_n 1, 1) := by decide +kernel
theorem dX3_gather_53 : decode cX3_gather 53 = .ok (.getfield 50, 3) := by decide +kernel
theorem dX3_gather_56 : decode cX3_gather 56 = .ok (.if_icmp .ge 80, 3) := by decide +kernel
theorem dX3_gather_59 : decode cX3_gather 59 = .ok (.aload_n 1, 1) := by decide +kernel
theorem dX3_gather_60 : decode cX3_gather 60 = .ok (.getfield 52, 3) := by decide +kernel
theorem dX3_gather_63 : decode cX3_gather 63 = .ok (.iload 6, 2) := by decide +kernel
theorem dX3_gather_65 : decode cX3_gather 65 = .ok (.iaload, 1) := by decide +kernel
theorem dX3_gather_66 : decode cX3_gather 66 = .ok (.iload_n 2, 1) := by decide +kernel
theorem dX3_gather_67 : decode cX3_gather 67 = .ok (.if_icmp .eq 6, 3) := by decide +kernel
theorem dX3_gather_70 : decode cX3_gather 70 = .ok (.goto 60, 3) := by decide +kernel
theorem dX3_gather_73 : decode cX3_gather 73 = .ok (.aload_n 3, 1) := by decide +kernel
theorem dX3_gather_74 : decode cX3_gather 74 = .ok (.getfield 55, 3) := by decide +kernel
theorem dX3_gather_77 : decode cX3_gather 77 = .ok (.getfield 60, 3) := by decide +kernel
theorem dX3_gather_80 : decode cX3_gather 80 = .ok (.aload_n 3, 1) := by decide +kernel
theorem dX3_gather_81 : decode cX3_gather 81 = .ok (.iload 6, 2) := by decide +kernel
theorem dX3_gather_83 : decode cX3_gather 83 = .ok (.invokevirtual 63, 3) := by decide +kernel
theorem dX3_gather_86 : decode cX3_gather 86 = .ok (.iaload, 1) := by decide +kernel
theorem dX3_gather_87 : decode cX3_gather 87 = .ok (.istore 7, 2) := by decide +kernel
theorem dX3_gather_89 : decode cX3_gather 89 = .ok (.aload_n 0, 1) := by decide +kernel
theorem dX3_gather_90 : decode cX3_gather 90 = .ok (.getfield 15, 3) := by decide +kernel
theorem dX3_gather_93 : decode cX3_gather 93 = .ok (.ifCond .le 23, 3) := by decide +kernel
theorem dX3_gather_96 : decode cX3_gather 96 = .ok (.aload_n 1, 1) := by decide +kernel
theorem dX3_gather_97 : decode cX3_gather 97 = .ok (.iload 6, 2) := by decide +kernel
theorem dX3_gather_99 : decode cX3_gather 99 = .ok (.aload_n 3, 1) := by decide +kernel
theorem dX3_gather_100 : decode cX3_gather 100 = .ok (.invokestatic 67, 3) := by decide +kernel
theorem dX3_gather_103 : decode cX3_gather 103 = .ok (.ifCond .eq 13, 3) := by decide +kernel
theorem dX3_gather_106 : decode cX3_gather 106 = .ok (.iload 5, 2) := by decide +kernel
theorem dX3_gather_108 : decode cX3_gather 108 = .ok (.iload 7, 2) := by decide +kernel
theorem dX3_gather_110 : decode cX3_gather 110 = .ok (.iadd, 1) := by decide +kernel
theorem dX3_gather_111 : decode cX3_gather 111 = .ok (.istore 5, 2) := by decide +kernel
theorem dX3_gather_113 : decode cX3_gather 113 = .ok (.goto 17, 3) := by decide +kernel
theorem dX3_gather_116 : decode cX3_gather 116 = .ok (.aload_n 0, 1) := by decide +kernel
theorem dX3_gather_117 : decode cX3_gather 117 = .ok (.iload 6, 2) := by decide +kernel
theorem dX3_gather_119 : decode cX3_gather 119 = .ok (.iload 7, 2) := by decide +kernel
theorem dX3_gather_121 : decode cX3_gather 121 = .ok (.aload_n 1, 1) := by decide +kernel
theorem dX3_gather_122 : decode cX3_gather 122 = .ok (.getfield 71, 3) := by decide +kernel
theorem dX3_gather_125 : decode cX3_gather 125 = .ok (.iload_n 2, 1) := by decide +kernel
theorem dX3_gather_126 : decode cX3_gather 126 = .ok (.baload, 1) := by decide +kernel
theorem dX3_gather_127 : decode cX3_gather 127 = .ok (.invokevirtual 74, 3) := by decide +kernel
theorem dX3_gather_130 : decode cX3_gather 130 = .ok (.iinc 6 1, 3) := by decide +kernel
theorem dX3_gather_133 : decode cX3_gather 133 = .ok (.goto (-83), 3) := by decide +kernel
theorem dX3_gather_136 : decode cX3_gather 136 = .ok (.aload_n 0, 1) := by decide +kernel
theorem dX3_gather_137 : decode cX3_gather 137 = .ok (.getfield 15, 3) := by decide +kernel
theorem dX3_gather_140 : decode cX3_gather 140 = .ok (.ifCond .le 11, 3) := by decide +kernel
theorem dX3_gather_143 : decode cX3_gather 143 = .ok (.aload_n 0, 1) := by decide +kernel
theorem dX3_gather_144 : decode cX3_gather 144 = .ok (.iconst (-1), 1) := by decide +kernel
theorem dX3_gather_145 : decode cX3_gather 145 = .ok (.iload 5, 2) := by decide +kernel
theorem dX3_gather_147 : decode cX3_gather 147 = .ok (.iconst 0, 1) := by decide +kernel
theorem dX3_gather_148 : decode cX3_gather 148 = .ok (.invokevirtual 74, 3) := by decide +kernel
theorem dX3_gather_151 : decode cX3_gather 151 = .ok (.iconst 0, 1) := by decide +kernel
theorem dX3_gather_152 : decode cX3_gather 152 = .ok (.istore 6, 2) := by decide +kernel
theorem dX3_gather_154 : decode cX3_gather 154 = .ok (.iload 6, 2) := by decide +kernel
theorem dX3_gather_156 : decode cX3_gather 156 = .ok (.aload_n 0, 1) := by decide +kernel
theorem dX3_gather_157 : decode cX3_gather 157 = .ok (.getfield 9, 3) := by decide +kernel
theorem dX3_gather_160 : decode cX3_gather 160 = .ok (.if_icmp .ge 33, 3) := by decide +kernel
theorem dX3_gather_163 : decode cX3_gather 163 = .ok (.aload_n 0, 1) := by decide +kernel
theorem dX3_gather_164 : decode cX3_gather 164 = .ok (.getfield 37, 3) := by decide +kernel
theorem dX3_gather_167 : decode cX3_gather 167 = .ok (.iload 6, 2) := by decide +kernel
theorem dX3_gather_169 : decode cX3_gather 169 = .ok (.iconst 1, 1) := by decide +kernel
theorem dX3_gather_170 : decode cX3_gather 170 = .ok (.iadd, 1) := by decide +kernel
theorem dX3_gather_171 : decode cX3_gather 171 = .ok (.aload_n 0, 1) := by decide +kernel
theorem dX3_gather_172 : decode cX3_gather 172 = .ok (.getfield 37, 3) := by decide +kernel
theorem dX3_gather_175 : decode cX3_gather 175 = .ok (.iload 6, 2) := by decide +kernel
theorem dX3_gather_177 : decode cX3_gather 177 = .ok (.iaload, 1) := by decide +kernel
theorem dX3_gather_178 : decode cX3_gather 178 = .ok (.aload_n 0, 1) := by decide +kernel
theorem dX3_gather_179 : decode cX3_gather 179 = .ok (.getfield 22, 3) := by decide +kernel
theorem dX3_gather_182 : decode cX3_gather 182 = .ok (.iload 6, 2) := by decide +kernel
theorem dX3_gather_184 : decode cX3_gather 184 = .ok (.iaload, 1) := by decide +kernel
theorem dX3_gather_185 : decode cX3_gather 185 = .ok (.iadd, 1) := by decide +kernel
theorem dX3_gather_186 : decode cX3_gather 186 = .ok (.iastore, 1) := by decide +kernel
theorem dX3_gather_187 : decode cX3_gather 187 = .ok (.iinc 6 1, 3) := by decide +kernel
theorem dX3_gather_190 : decode cX3_gather 190 = .ok (.goto (-36), 3) := by decide +kernel
theorem dX3_gather_193 : decode cX3_gather 193 = .ok (.aload_n 0, 1) := by decide +kernel
theorem dX3_gather_194 : decode cX3_gather 194 = .ok (.aload_n 3, 1) := by decide +kernel
theorem dX3_gather_195 : decode cX3_gather 195 = .ok (.aload_n 3, 1) := by decide +kernel
theorem dX3_gather_196 : decode cX3_gather 196 = .ok (.iload_n 2, 1) := by decide +kernel
theorem dX3_gather_197 : decode cX3_gather 197 = .ok (.invokevirtual 63, 3) := by decide +kernel
theorem dX3_gather_200 : decode cX3_gather 200 = .ok (.invokevirtual 78, 3) := by decide +kernel
theorem dX3_gather_203 : decode cX3_gather 203 = .ok (.return_, 1) := by decide +kernel
theorem dX3_setFrame_0 : decode cX3_setFrame 0 = .ok (.aload_n 0, 1) := by decide +kernel
theorem dX3_setFrame_1 : decode cX3_setFrame 1 = .ok (.aload_n 1, 1) := by decide +kernel
theorem dX3_setFrame_2 : decode cX3_setFrame 2 = .ok (.getfield 55, 3) := by decide +kernel
theorem dX3_setFrame_5 : decode cX3_setFrame 5 = .ok (.getfield 82, 3) := by decide +kernel
theorem dX3_setFrame_8 : decode cX3_setFrame 8 = .ok (.iload_n 2, 1) := by decide +kernel
theorem dX3_setFrame_9 : decode cX3_setFrame 9 = .ok (.iaload, 1) := by decide +kernel
theorem dX3_setFrame_10 : decode cX3_setFrame 10 = .ok (.putfield 25, 3) := by decide +kernel
theorem dX3_setFrame_13 : decode cX3_setFrame 13 = .ok (.aload_n 0, 1) := by decide +kernel
theorem dX3_setFrame_14 : decode cX3_setFrame 14 = .ok (.aload_n 1, 1) := by decide +kernel
theorem dX3_setFrame_15 : decode cX3_setFrame 15 = .ok (.getfield 55, 3) := by decide +kernel
theorem dX3_setFrame_18 : decode cX3_setFrame 18 = .ok (.getfield 84, 3) := by decide +kernel
theorem dX3_setFrame_21 : decode cX3_setFrame 21 = .ok (.iload_n 2, 1) := by decide +kernel
theorem dX3_setFrame_22 : decode cX3_setFrame 22 = .ok (.iaload, 1) := by decide +kernel
theorem dX3_setFrame_23 : decode cX3_setFrame 23 = .ok (.putfield 28, 3) := by decide +kernel
theorem dX3_setFrame_26 : decode cX3_setFrame 26 = .ok (.aload_n 0, 1) := by decide +kernel
theorem dX3_setFrame_27 : decode cX3_setFrame 27 = .ok (.aload_n 1, 1) := by decide +kernel
theorem dX3_setFrame_28 : decode cX3_setFrame 28 = .ok (.getfield 55, 3) := by decide +kernel
theorem dX3_setFrame_31 : decode cX3_setFrame 31 = .ok (.getfield 86, 3) := by decide +kernel
theorem dX3_setFrame_34 : decode cX3_setFrame 34 = .ok (.iload_n 2, 1) := by decide +kernel
theorem dX3_setFrame_35 : decode cX3_setFrame 35 = .ok (.iaload, 1) := by decide +kernel
theorem dX3_setFrame_36 : decode cX3_setFrame 36 = .ok (.putfield 31, 3) := by decide +kernel
theorem dX3_setFrame_39 : decode cX3_setFrame 39 = .ok (.aload_n 0, 1) := by decide +kernel
theorem dX3_setFrame_40 : decode cX3_setFrame 40 = .ok (.aload_n 1, 1) := by decide +kernel
theorem dX3_setFrame_41 : decode cX3_setFrame 41 = .ok (.getfield 55, 3) := by decide +kernel
theorem dX3_setFrame_44 : decode cX3_setFrame 44 = .ok (.getfield 88, 3) := by decide +kernel
theorem dX3_setFrame_47 : decode cX3_setFrame 47 = .ok (.iload_n 2, 1) := by decide +kernel
theorem dX3_setFrame_48 : decode cX3_setFrame 48 = .ok (.iaload, 1) := by decide +kernel
theorem dX3_setFrame_49 : decode cX3_setFrame 49 = .ok (.putfield 34, 3) := by decide +kernel
theorem dX3_setFrame_52 : decode cX3_setFrame 52 = .ok (.return_, 1) := by decide +kernel
theorem dX3_countSmall_0 : decode cX3_countSmall 0 = .ok (.iconst 0, 1) := by decide +kernel
theorem dX3_countSmall_1 : decode cX3_countSmall 1 = .ok (.istore_n 3, 1) := by decide +kernel
theorem dX3_countSmall_2 : decode cX3_countSmall 2 = .ok (.iload_n 1, 1) := by decide +kernel
theorem dX3_countSmall_3 : decode cX3_countSmall 3 = .ok (.iconst 1, 1) := by decide +kernel
theorem dX3_countSmall_4 : decode cX3_countSmall 4 = .ok (.iadd, 1) := by decide +kernel
theorem dX3_countSmall_5 : decode cX3_countSmall 5 = .ok (.istore 4, 2) := by decide +kernel
theorem dX3_countSmall_7 : decode cX3_countSmall 7 = .ok (.iload 4, 2) := by decide +kernel
theorem dX3_countSmall_9 : decode cX3_countSmall 9 = .ok (.aload_n 0, 1) := by decide +kernel
theorem dX3_countSmall_10 : decode cX3_countSmall 10 = .ok (.getfield 50, 3) := by decide +kernel
theorem dX3_countSmall_13 : decode cX3_countSmall 13 = .ok (.if_icmp .ge 33, 3) := by decide +kernel
theorem dX3_countSmall_16 : decode cX3_countSmall 16 = .ok (.aload_n 0, 1) := by decide +kernel
theorem dX3_countSmall_17 : decode cX3_countSmall 17 = .ok (.getfield 52, 3) := by decide +kernel
theorem dX3_countSmall_20 : decode cX3_countSmall 20 = .ok (.iload 4, 2) := by decide +kernel
theorem dX3_countSmall_22 : decode cX3_countSmall 22 = .ok (.iaload, 1) := by decide +kernel
theorem dX3_countSmall_23 : decode cX3_countSmall 23 = .ok (.iload_n 1, 1) := by decide +kernel
theorem dX3_countSmall_24 : decode cX3_countSmall 24 = .ok (.if_icmp .ne 16, 3) := by decide +kernel
theorem dX3_countSmall_27 : decode cX3_countSmall 27 = .ok (.aload_n 0, 1) := by decide +kernel
theorem dX3_countSmall_28 : decode cX3_countSmall 28 = .ok (.iload 4, 2) := by decide +kernel
theorem dX3_countSmall_30 : decode cX3_countSmall 30 = .ok (.aload_n 2, 1) := by decide +kernel
theorem dX3_countSmall_31 : decode cX3_countSmall 31 = .ok (.invokestatic 67, 3) := by decide +kernel
theorem dX3_countSmall_34 : decode cX3_countSmall 34 = .ok (.ifCond .eq 6, 3) := by decide +kernel
theorem dX3_countSmall_37 : decode cX3_countSmall 37 = .ok (.iinc 3 1, 3) := by decide +kernel
theorem dX3_countSmall_40 : decode cX3_countSmall 40 = .ok (.iinc 4 1, 3) := by decide +kernel
theorem dX3_countSmall_43 : decode cX3_countSmall 43 = .ok (.goto (-36), 3) := by decide +kernel
theorem dX3_countSmall_46 : decode cX3_countSmall 46 = .ok (.iload_n 3, 1) := by decide +kernel
theorem dX3_countSmall_47 : decode cX3_countSmall 47 = .ok (.ireturn, 1) := by decide +kernel
theorem dX3_isSmall_0 : decode cX3_isSmall 0 = .ok (.aload_n 0, 1) := by decide +kernel
theorem dX3_isSmall_1 : decode cX3_isSmall 1 = .ok (.getfield 52, 3) := by decide +kernel
theorem dX3_isSmall_4 : decode cX3_isSmall 4 = .ok (.iload_n 1, 1) := by decide +kernel
theorem dX3_isSmall_5 : decode cX3_isSmall 5 = .ok (.iaload, 1) := by decide +kernel
theorem dX3_isSmall_6 : decode cX3_isSmall 6 = .ok (.istore_n 3, 1) := by decide +kernel
theorem dX3_isSmall_7 : decode cX3_isSmall 7 = .ok (.aload_n 0, 1) := by decide +kernel
theorem dX3_isSmall_8 : decode cX3_isSmall 8 = .ok (.iload_n 1, 1) := by decide +kernel
theorem dX3_isSmall_9 : decode cX3_isSmall 9 = .ok (.invokevirtual 90, 3) := by decide +kernel
theorem dX3_isSmall_12 : decode cX3_isSmall 12 = .ok (.ifCond .eq 11, 3) := by decide +kernel
theorem dX3_isSmall_15 : decode cX3_isSmall 15 = .ok (.aload_n 0, 1) := by decide +kernel
theorem dX3_isSmall_16 : decode cX3_isSmall 16 = .ok (.iload_n 3, 1) := by decide +kernel
theorem dX3_isSmall_17 : decode cX3_isSmall 17 = .ok (.invokevirtual 94, 3) := by decide +kernel
theorem dX3_isSmall_20 : decode cX3_isSmall 20 = .ok (.ifCond .ne 5, 3) := by decide +kernel
theorem dX3_isSmall_23 : decode cX3_isSmall 23 = .ok (.iconst 0, 1) := by decide +kernel
theorem dX3_isSmall_24 : decode cX3_isSmall 24 = .ok (.ireturn, 1) := by decide +kernel
theorem dX3_isSmall_25 : decode cX3_isSmall 25 = .ok (.aload_n 2, 1) := by decide +kernel
theorem dX3_isSmall_26 : decode cX3_isSmall 26 = .ok (.getfield 55, 3) := by decide +kernel
theorem dX3_isSmall_29 : decode cX3_isSmall 29 = .ok (.getfield 60, 3) := by decide +kernel
theorem dX3_isSmall_32 : decode cX3_isSmall 32 = .ok (.astore 4, 2) := by decide +kernel
theorem dX3_isSmall_34 : decode cX3_isSmall 34 = .ok (.aload_n 0, 1) := by decide +kernel
theorem dX3_isSmall_35 : decode cX3_isSmall 35 = .ok (.getfield 97, 3) := by decide +kernel
theorem dX3_isSmall_38 : decode cX3_isSmall 38 = .ok (.iload_n 3, 1) := by decide +kernel
theorem dX3_isSmall_39 : decode cX3_isSmall 39 = .ok (.iaload, 1) := by decide +kernel
theorem dX3_isSmall_40 : decode cX3_isSmall 40 = .ok (.i2l, 1) := by decide +kernel
theorem dX3_isSmall_41 : decode cX3_isSmall 41 = .ok (.aload 4, 2) := by decide +kernel
theorem dX3_isSmall_43 : decode cX3_isSmall 43 = .ok (.aload_n 2, 1) := by decide +kernel
theorem dX3_isSmall_44 : decode cX3_isSmall 44 = .ok (.iload_n 3, 1) := by decide +kernel
theorem dX3_isSmall_45 : decode cX3_isSmall 45 = .ok (.invokevirtual 63, 3) := by decide +kernel
theorem dX3_isSmall_48 : decode cX3_isSmall 48 = .ok (.iaload, 1) := by decide +kernel
theorem dX3_isSmall_49 : decode cX3_isSmall 49 = .ok (.i2l, 1) := by decide +kernel
theorem dX3_isSmall_50 : decode cX3_isSmall 50 = .ok (.lmul, 1) := by decide +kernel
theorem dX3_isSmall_51 : decode cX3_isSmall 51 = .ok (.lstore 5, 2) := by decide +kernel
theorem dX3_isSmall_53 : decode cX3_isSmall 53 = .ok (.aload 4, 2) := by decide +kernel
theorem dX3_isSmall_55 : decode cX3_isSmall 55 = .ok (.aload_n 2, 1) := by decide +kernel
theorem dX3_isSmall_56 : decode cX3_isSmall 56 = .ok (.iload_n 1, 1) := by decide +kernel
theorem dX3_isSmall_57 : decode cX3_isSmall 57 = .ok (.invokevirtual 63, 3) := by decide +kernel
theorem dX3_isSmall_60 : decode cX3_isSmall 60 = .ok (.iaload, 1) := by decide +kernel
theorem dX3_isSmall_61 : decode cX3_isSmall 61 = .ok (.i2l, 1) := by decide +kernel
theorem dX3_isSmall_62 : decode cX3_isSmall 62 = .ok (.ldc2_w 100, 3) := by decide +kernel
theorem dX3_isSmall_65 : decode cX3_isSmall 65 = .ok (.lmul, 1) := by decide +kernel
theorem dX3_isSmall_66 : decode cX3_isSmall 66 = .ok (.lload 5, 2) := by decide +kernel
theorem dX3_isSmall_68 : decode cX3_isSmall 68 = .ok (.lcmp, 1) := by decide +kernel
theorem dX3_isSmall_69 : decode cX3_isSmall 69 = .ok (.ifCond .ge 7, 3) := by decide +kernel
theorem dX3_isSmall_72 : decode cX3_isSmall 72 = .ok (.iconst 1, 1) := by decide +kernel
theorem dX3_isSmall_73 : decode cX3_isSmall 73 = .ok (.goto 4, 3) := by decide +kernel
theorem dX3_isSmall_76 : decode cX3_isSmall 76 = .ok (.iconst 0, 1) := by decide +kernel
theorem dX3_isSmall_77 : decode cX3_isSmall 77 = .ok (.ireturn, 1) := by decide +kernel
theorem dX3_add_0 : decode cX3_add 0 = .ok (.aload_n 0, 1) := by decide +kernel
theorem dX3_add_1 : decode cX3_add 1 = .ok (.getfield 9, 3) := by decide +kernel
theorem dX3_add_4 : decode cX3_add 4 = .ok (.bipush 8, 2) := by decide +kernel
theorem dX3_add_6 : decode cX3_add 6 = .ok (.if_icmp .lt 4, 3) := by decide +kernel
theorem dX3_add_9 : decode cX3_add 9 = .ok (.return_, 1) := by decide +kernel
theorem dX3_add_10 : decode cX3_add 10 = .ok (.aload_n 0, 1) := by decide +kernel
theorem dX3_add_11 : decode cX3_add 11 = .ok (.getfield 9, 3) := by decide +kernel
theorem dX3_add_14 : decode cX3_add 14 = .ok (.istore 4, 2) := by decide +kernel
theorem dX3_add_16 : decode cX3_add 16 = .ok (.iload_n 3, 1) := by decide +kernel
theorem dX3_add_17 : decode cX3_add 17 = .ok (.ifCond .eq 59, 3) := by decide +kernel
theorem dX3_add_20 : decode cX3_add 20 = .ok (.iload 4, 2) := by decide +kernel
theorem dX3_add_22 : decode cX3_add 22 = .ok (.ifCond .le 54, 3) := by decide +kernel
theorem dX3_add_25 : decode cX3_add 25 = .ok (.aload_n 0, 1) := by decide +kernel
theorem dX3_add_26 : decode cX3_add 26 = .ok (.getfield 22, 3) := by decide +kernel
theorem dX3_add_29 : decode cX3_add 29 = .ok (.iload 4, 2) := by decide +kernel
theorem dX3_add_31 : decode cX3_add 31 = .ok (.iconst 1, 1) := by decide +kernel
theorem dX3_add_32 : decode cX3_add 32 = .ok (.isub, 1) := by decide +kernel
theorem dX3_add_33 : decode cX3_add 33 = .ok (.iaload, 1) := by decide +kernel
theorem dX3_add_34 : decode cX3_add 34 = .ok (.iload_n 2, 1) := by decide +kernel
theorem dX3_add_35 : decode cX3_add 35 = .ok (.if_icmp .ge 41, 3) := by decide +kernel
theorem dX3_add_38 : decode cX3_add 38 = .ok (.aload_n 0, 1) := by decide +kernel
theorem dX3_add_39 : decode cX3_add 39 = .ok (.getfield 18, 3) := by decide +kernel
theorem dX3_add_42 : decode cX3_add 42 = .ok (.iload 4, 2) := by decide +kernel
theorem dX3_add_44 : decode cX3_add 44 = .ok (.aload_n 0, 1) := by decide +kernel
theorem dX3_add_45 : decode cX3_add 45 = .ok (.getfield 18, 3) := by decide +kernel
theorem dX3_add_48 : decode cX3_add 48 = .ok (.iload 4, 2) := by decide +kernel
theorem dX3_add_50 : decode cX3_add 50 = .ok (.iconst 1, 1) := by decide +kernel
theorem dX3_add_51 : decode cX3_add 51 = .ok (.isub, 1) := by decide +kernel
theorem dX3_add_52 : decode cX3_add 52 = .ok (.iaload, 1) := by decide +kernel
theorem dX3_add_53 : decode cX3_add 53 = .ok (.iastore, 1) := by decide +kernel
theorem dX3_add_54 : decode cX3_add 54 = .ok (.aload_n 0, 1) := by decide +kernel
theorem dX3_add_55 : decode cX3_add 55 = .ok (.getfield 22, 3) := by decide +kernel
theorem dX3_add_58 : decode cX3_add 58 = .ok (.iload 4, 2) := by decide +kernel
theorem dX3_add_60 : decode cX3_add 60 = .ok (.aload_n 0, 1) := by decide +kernel
theorem dX3_add_61 : decode cX3_add 61 = .ok (.getfield 22, 3) := by decide +kernel
theorem dX3_add_64 : decode cX3_add 64 = .ok (.iload 4, 2) := by decide +kernel
theorem dX3_add_66 : decode cX3_add 66 = .ok (.iconst 1, 1) := by decide +kernel
theorem dX3_add_67 : decode cX3_add 67 = .ok (.isub, 1) := by decide +kernel
theorem dX3_add_68 : decode cX3_add 68 = .ok (.iaload, 1) := by decide +kernel
theorem dX3_add_69 : decode cX3_add 69 = .ok (.iastore, 1) := by decide +kernel
theorem dX3_add_70 : decode cX3_add 70 = .ok (.iinc 4 (-1), 3) := by decide +kernel
theorem dX3_add_73 : decode cX3_add 73 = .ok (.goto (-57), 3) := by decide +kernel
theorem dX3_add_76 : decode cX3_add 76 = .ok (.aload_n 0, 1) := by decide +kernel
theorem dX3_add_77 : decode cX3_add 77 = .ok (.getfield 18, 3) := by decide +kernel
theorem dX3_add_80 : decode cX3_add 80 = .ok (.iload 4, 2) := by decide +kernel
theorem dX3_add_82 : decode cX3_add 82 = .ok (.iload_n 1, 1) := by decide +kernel
theorem dX3_add_83 : decode cX3_add 83 = .ok (.iastore, 1) := by decide +kernel
theorem dX3_add_84 : decode cX3_add 84 = .ok (.aload_n 0, 1) := by decide +kernel
theorem dX3_add_85 : decode cX3_add 85 = .ok (.getfield 22, 3) := by decide +kernel
theorem dX3_add_88 : decode cX3_add 88 = .ok (.iload 4, 2) := by decide +kernel
theorem dX3_add_90 : decode cX3_add 90 = .ok (.iload_n 2, 1) := by decide +kernel
theorem dX3_add_91 : decode cX3_add 91 = .ok (.iastore, 1) := by decide +kernel
theorem dX3_add_92 : decode cX3_add 92 = .ok (.aload_n 0, 1) := by decide +kernel
theorem dX3_add_93 : decode cX3_add 93 = .ok (.dup, 1) := by decide +kernel
theorem dX3_add_94 : decode cX3_add 94 = .ok (.getfield 9, 3) := by decide +kernel
theorem dX3_add_97 : decode cX3_add 97 = .ok (.iconst 1, 1) := by decide +kernel
theorem dX3_add_98 : decode cX3_add 98 = .ok (.iadd, 1) := by decide +kernel
theorem dX3_add_99 : decode cX3_add 99 = .ok (.putfield 9, 3) := by decide +kernel
theorem dX3_add_102 : decode cX3_add 102 = .ok (.return_, 1) := by decide +kernel
theorem dX3_sum_0 : decode cX3_sum 0 = .ok (.aload_n 0, 1) := by decide +kernel
theorem dX3_sum_1 : decode cX3_sum 1 = .ok (.getfield 37, 3) := by decide +kernel
theorem dX3_sum_4 : decode cX3_sum 4 = .ok (.iload_n 2, 1) := by decide +kernel
theorem dX3_sum_5 : decode cX3_sum 5 = .ok (.iaload, 1) := by decide +kernel
theorem dX3_sum_6 : decode cX3_sum 6 = .ok (.aload_n 0, 1) := by decide +kernel
theorem dX3_sum_7 : decode cX3_sum 7 = .ok (.getfield 37, 3) := by decide +kernel
theorem dX3_sum_10 : decode cX3_sum 10 = .ok (.iload_n 1, 1) := by decide +kernel
theorem dX3_sum_11 : decode cX3_sum 11 = .ok (.iaload, 1) := by decide +kernel
theorem dX3_sum_12 : decode cX3_sum 12 = .ok (.isub, 1) := by decide +kernel
theorem dX3_sum_13 : decode cX3_sum 13 = .ok (.ireturn, 1) := by decide +kernel
theorem dX3_begin_0 : decode cX3_begin 0 = .ok (.iload_n 1, 1) := by decide +kernel
theorem dX3_begin_1 : decode cX3_begin 1 = .ok (.iload 4, 2) := by decide +kernel
theorem dX3_begin_3 : decode cX3_begin 3 = .ok (.if_icmp .lt 7, 3) := by decide +kernel
theorem dX3_begin_6 : decode cX3_begin 6 = .ok (.iload_n 2, 1) := by decide +kernel
theorem dX3_begin_7 : decode cX3_begin 7 = .ok (.goto 20, 3) := by decide +kernel
theorem dX3_begin_10 : decode cX3_begin 10 = .ok (.iload_n 2, 1) := by decide +kernel
theorem dX3_begin_11 : decode cX3_begin 11 = .ok (.aload_n 0, 1) := by decide +kernel
theorem dX3_begin_12 : decode cX3_begin 12 = .ok (.iload_n 3, 1) := by decide +kernel
theorem dX3_begin_13 : decode cX3_begin 13 = .ok (.iload_n 1, 1) := by decide +kernel
theorem dX3_begin_14 : decode cX3_begin 14 = .ok (.invokevirtual 102, 3) := by decide +kernel
theorem dX3_begin_17 : decode cX3_begin 17 = .ok (.aload_n 0, 1) := by decide +kernel
theorem dX3_begin_18 : decode cX3_begin 18 = .ok (.iload_n 3, 1) := by decide +kernel
theorem dX3_begin_19 : decode cX3_begin 19 = .ok (.iload 4, 2) := by decide +kernel
theorem dX3_begin_21 : decode cX3_begin 21 = .ok (.invokevirtual 102, 3) := by decide +kernel
theorem dX3_begin_24 : decode cX3_begin 24 = .ok (.invokestatic 106, 3) := by decide +kernel
theorem dX3_begin_27 : decode cX3_begin 27 = .ok (.ireturn, 1) := by decide +kernel
theorem dX4_init_0 : decode cX4_init 0 = .ok (.aload_n 0, 1) := by decide +kernel
theorem dX4_init_1 : decode cX4_init 1 = .ok (.invokespecial 3, 3) := by decide +kernel
theorem dX4_init_4 : decode cX4_init 4 = .ok (.aload_n 0, 1) := by decide +kernel
theorem dX4_init_5 : decode cX4_init 5 = .ok (.iconst 0, 1) := by decide +kernel
theorem dX4_init_6 : decode cX4_init 6 = .ok (.putfield 9, 3) := by decide +kernel
theorem dX4_init_9 : decode cX4_init 9 = .ok (.aload_n 0, 1) := by decide +kernel
theorem dX4_init_10 : decode cX4_init 10 = .ok (.new 15, 3) := by decide +kernel
theorem dX4_init_13 : decode cX4_init 13 = .ok (.dup, 1) := by decide +kernel
theorem dX4_init_14 : decode cX4_init 14 = .ok (.invokespecial 17, 3) := by decide +kernel
theorem dX4_init_17 : decode cX4_init 17 = .ok (.putfield 18, 3) := by decide +kernel
theorem dX4_init_20 : decode cX4_init 20 = .ok (.aload_n 0, 1) := by decide +kernel
theorem dX4_init_21 : decode cX4_init 21 = .ok (.new 22, 3) := by decide +kernel
theorem dX4_init_24 : decode cX4_init 24 = .ok (.dup, 1) := by decide +kernel
theorem dX4_init_25 : decode cX4_init 25 = .ok (.invokespecial 24, 3) := by decide +kernel
theorem dX4_init_28 : decode cX4_init 28 = .ok (.putfield 25, 3) := by decide +kernel
theorem dX4_init_31 : decode cX4_init 31 = .ok (.aload_n 0, 1) := by decide +kernel
theorem dX4_init_32 : decode cX4_init 32 = .ok (.new 29, 3) := by decide +kernel
theorem dX4_init_35 : decode cX4_init 35 = .ok (.dup, 1) := by decide +kernel
theorem dX4_init_36 : decode cX4_init 36 = .ok (.invokespecial 31, 3) := by decide +kernel
theorem dX4_init_39 : decode cX4_init 39 = .ok (.putfield 32, 3) := by decide +kernel
theorem dX4_init_42 : decode cX4_init 42 = .ok (.aload_n 0, 1) := by decide +kernel
theorem dX4_init_43 : decode cX4_init 43 = .ok (.iconst 3, 1) := by decide +kernel
theorem dX4_init_44 : decode cX4_init 44 = .ok (.anewarray 36, 3) := by decide +kernel
theorem dX4_init_47 : decode cX4_init 47 = .ok (.dup, 1) := by decide +kernel
theorem dX4_init_48 : decode cX4_init 48 = .ok (.iconst 0, 1) := by decide +kernel
theorem dX4_init_49 : decode cX4_init 49 = .ok (.new 36, 3) := by decide +kernel
theorem dX4_init_52 : decode cX4_init 52 = .ok (.dup, 1) := by decide +kernel
theorem dX4_init_53 : decode cX4_init 53 = .ok (.invokespecial 38, 3) := by decide +kernel
theorem dX4_init_56 : decode cX4_init 56 = .ok (.aastore, 1) := by decide +kernel
theorem dX4_init_57 : decode cX4_init 57 = .ok (.dup, 1) := by decide +kernel
theorem dX4_init_58 : decode cX4_init 58 = .ok (.iconst 1, 1) := by decide +kernel
theorem dX4_init_59 : decode cX4_init 59 = .ok (.aload_n 0, 1) := by decide +kernel
theorem dX4_init_60 : decode cX4_init 60 = .ok (.getfield 25, 3) := by decide +kernel
theorem dX4_init_63 : decode cX4_init 63 = .ok (.getfield 39, 3) := by decide +kernel
theorem dX4_init_66 : decode cX4_init 66 = .ok (.aastore, 1) := by decide +kernel
theorem dX4_init_67 : decode cX4_init 67 = .ok (.dup, 1) := by decide +kernel
theorem dX4_init_68 : decode cX4_init 68 = .ok (.iconst 2, 1) := by decide +kernel
theorem dX4_init_69 : decode cX4_init 69 = .ok (.aload_n 0, 1) := by decide +kernel
theorem dX4_init_70 : decode cX4_init 70 = .ok (.getfield 32, 3) := by decide +kernel
theorem dX4_init_73 : decode cX4_init 73 = .ok (.getfield 43, 3) := by decide +kernel
theorem dX4_init_76 : decode cX4_init 76 = .ok (.aastore, 1) := by decide +kernel
theorem dX4_init_77 : decode cX4_init 77 = .ok (.putfield 44, 3) := by decide +kernel
theorem dX4_init_80 : decode cX4_init 80 = .ok (.return_, 1) := by decide +kernel
theorem dX4_layGroup_0 : decode cX4_layGroup 0 = .ok (.aload_n 0, 1) := by decide +kernel
theorem dX4_layGroup_1 : decode cX4_layGroup 1 = .ok (.getfield 18, 3) := by decide +kernel
theorem dX4_layGroup_4 : decode cX4_layGroup 4 = .ok (.aload_n 1, 1) := by decide +kernel
theorem dX4_layGroup_5 : decode cX4_layGroup 5 = .ok (.iload_n 2, 1) := by decide +kernel
theorem dX4_layGroup_6 : decode cX4_layGroup 6 = .ok (.aload_n 3, 1) := by decide +kernel
theorem dX4_layGroup_7 : decode cX4_layGroup 7 = .ok (.invokevirtual 48, 3) := by decide +kernel
theorem dX4_layGroup_10 : decode cX4_layGroup 10 = .ok (.iconst 0, 1) := by decide +kernel
theorem dX4_layGroup_11 : decode cX4_layGroup 11 = .ok (.istore 4, 2) := by decide +kernel
theorem dX4_layGroup_13 : decode cX4_layGroup 13 = .ok (.aload_n 0, 1) := by decide +kernel
theorem dX4_layGroup_14 : decode cX4_layGroup 14 = .ok (.getfield 18, 3) := by decide +kernel
theorem dX4_layGroup_17 : decode cX4_layGroup 17 = .ok (.iconst 0, 1) := by decide +kernel
theorem dX4_layGroup_18 : decode cX4_layGroup 18 = .ok (.aload_n 0, 1) := by decide +kernel
theorem dX4_layGroup_19 : decode cX4_layGroup 19 = .ok (.getfield 18, 3) := by decide +kernel
theorem dX4_layGroup_22 : decode cX4_layGroup 22 = .ok (.getfield 52, 3) := by decide +kernel
theorem dX4_layGroup_25 : decode cX4_layGroup 25 = .ok (.invokevirtual 55, 3) := by decide +kernel
theorem dX4_layGroup_28 : decode cX4_layGroup 28 = .ok (.ifCond .ne 16, 3) := by decide +kernel
theorem dX4_layGroup_31 : decode cX4_layGroup 31 = .ok (.aload_n 0, 1) := by decide +kernel
theorem dX4_layGroup_32 : decode cX4_layGroup 32 = .ok (.aload_n 0, 1) := by decide +kernel
theorem dX4_layGroup_33 : decode cX4_layGroup 33 = .ok (.getfield 44, 3) := by decide +kernel
theorem dX4_layGroup_36 : decode cX4_layGroup 36 = .ok (.iconst 0, 1) := by decide +kernel
theorem dX4_layGroup_37 : decode cX4_layGroup 37 = .ok (.aaload, 1) := by decide +kernel
theorem dX4_layGroup_38 : decode cX4_layGroup 38 = .ok (.invokevirtual 59, 3) := by decide +kernel
theorem dX4_layGroup_41 : decode cX4_layGroup 41 = .ok (.goto 16, 3) := by decide +kernel
theorem dX4_layGroup_44 : decode cX4_layGroup 44 = .ok (.aload_n 0, 1) := by decide +kernel
theorem dX4_layGroup_45 : decode cX4_layGroup 45 = .ok (.aload_n 1, 1) := by decide +kernel
theorem dX4_layGroup_46 : decode cX4_layGroup 46 = .ok (.getfield 63, 3) := by decide +kernel
theorem dX4_layGroup_49 : decode cX4_layGroup 49 = .ok (.iload_n 2, 1) := by decide +kernel
theorem dX4_layGroup_50 : decode cX4_layGroup 50 = .ok (.iaload, 1) := by decide +kernel
theorem dX4_layGroup_51 : decode cX4_layGroup 51 = .ok (.aload_n 3, 1) := by decide +kernel
theorem dX4_layGroup_52 : decode cX4_layGroup 52 = .ok (.invokevirtual 69, 3) := by decide +kernel
theorem dX4_layGroup_55 : decode cX4_layGroup 55 = .ok (.istore 4, 2) := by decide +kernel
theorem dX4_layGroup_57 : decode cX4_layGroup 57 = .ok (.aload_n 0, 1) := by decide +kernel
theorem dX4_layGroup_58 : decode cX4_layGroup 58 = .ok (.getfield 44, 3) := by decide +kernel
theorem dX4_layGroup_61 : decode cX4_layGroup 61 = .ok (.iload 4, 2) := by decide +kernel
theorem dX4_layGroup_63 : decode cX4_layGroup 63 = .ok (.aaload, 1) := by decide +kernel
theorem dX4_layGroup_64 : decode cX4_layGroup 64 = .ok (.astore 5, 2) := by decide +kernel
theorem dX4_layGroup_66 : decode cX4_layGroup 66 = .ok (.iconst 0, 1) := by decide +kernel
theorem dX4_layGroup_67 : decode cX4_layGroup 67 = .ok (.istore 6, 2) := by decide +kernel
theorem dX4_layGroup_69 : decode cX4_layGroup 69 = .ok (.iload 6, 2) := by decide +kernel
theorem dX4_layGroup_71 : decode cX4_layGroup 71 = .ok (.aload_n 0, 1) := by decide +kernel
theorem dX4_layGroup_72 : decode cX4_layGroup 72 = .ok (.getfield 18, 3) := by decide +kernel
theorem dX4_layGroup_75 : decode cX4_layGroup 75 = .ok (.getfield 52, 3) := by decide +kernel
theorem dX4_layGroup_78 : decode cX4_layGroup 78 = .ok (.if_icmp .ge 22, 3) := by decide +kernel
theorem dX4_layGroup_81 : decode cX4_layGroup 81 = .ok (.aload_n 0, 1) := by decide +kernel
theorem dX4_layGroup_82 : decode cX4_layGroup 82 = .ok (.aload 5, 2) := by decide +kernel
theorem dX4_layGroup_84 : decode cX4_layGroup 84 = .ok (.getfield 73, 3) := by decide +kernel
theorem dX4_layGroup_87 : decode cX4_layGroup 87 = .ok (.iload 6, 2) := by decide +kernel
theorem dX4_layGroup_89 : decode cX4_layGroup 89 = .ok (.iload_n 2, 1) := by decide +kernel
theorem dX4_layGroup_90 : decode cX4_layGroup 90 = .ok (.aload_n 3, 1) := by decide +kernel
theorem dX4_layGroup_91 : decode cX4_layGroup 91 = .ok (.invokevirtual 77, 3) := by decide +kernel
theorem dX4_layGroup_94 : decode cX4_layGroup 94 = .ok (.iinc 6 1, 3) := by decide +kernel
theorem dX4_layGroup_97 : decode cX4_layGroup 97 = .ok (.goto (-28), 3) := by decide +kernel
theorem dX4_layGroup_100 : decode cX4_layGroup 100 = .ok (.aload_n 3, 1) := by decide +kernel
theorem dX4_layGroup_101 : decode cX4_layGroup 101 = .ok (.getfield 81, 3) := by decide +kernel
theorem dX4_layGroup_104 : decode cX4_layGroup 104 = .ok (.iload_n 2, 1) := by decide +kernel
theorem dX4_layGroup_105 : decode cX4_layGroup 105 = .ok (.aload_n 0, 1) := by decide +kernel
theorem dX4_layGroup_106 : decode cX4_layGroup 106 = .ok (.getfield 18, 3) := by decide +kernel
theorem dX4_layGroup_109 : decode cX4_layGroup 109 = .ok (.getfield 86, 3) := by decide +kernel
theorem dX4_layGroup_112 : decode cX4_layGroup 112 = .ok (.iastore, 1) := by decide +kernel
theorem dX4_layGroup_113 : decode cX4_layGroup 113 = .ok (.aload_n 3, 1) := by decide +kernel
theorem dX4_layGroup_114 : decode cX4_layGroup 114 = .ok (.getfield 88, 3) := by decide +kernel
theorem dX4_layGroup_117 : decode cX4_layGroup 117 = .ok (.iload_n 2, 1) := by decide +kernel
theorem dX4_layGroup_118 : decode cX4_layGroup 118 = .ok (.iload 4, 2) := by decide +kernel
theorem dX4_layGroup_120 : decode cX4_layGroup 120 = .ok (.iastore, 1) := by decide +kernel
theorem dX4_layGroup_121 : decode cX4_layGroup 121 = .ok (.aload_n 3, 1) := by decide +kernel
theorem dX4_layGroup_122 : decode cX4_layGroup 122 = .ok (.getfield 91, 3) := by decide +kernel
theorem dX4_layGroup_125 : decode cX4_layGroup 125 = .ok (.iload_n 2, 1) := by decide +kernel
theorem dX4_layGroup_126 : decode cX4_layGroup 126 = .ok (.aload 5, 2) := by decide +kernel
theorem dX4_layGroup_128 : decode cX4_layGroup 128 = .ok (.getfield 94, 3) := by decide +kernel
theorem dX4_layGroup_131 : decode cX4_layGroup 131 = .ok (.iastore, 1) := by decide +kernel
theorem dX4_layGroup_132 : decode cX4_layGroup 132 = .ok (.return_, 1) := by decide +kernel
theorem dX4_show_0 : decode cX4_show 0 = .ok (.aload_n 0, 1) := by decide +kernel
theorem dX4_show_1 : decode cX4_show 1 = .ok (.getfield 18, 3) := by decide +kernel
theorem dX4_show_4 : decode cX4_show 4 = .ok (.getfield 96, 3) := by decide +kernel
theorem dX4_show_7 : decode cX4_show 7 = .ok (.iload_n 2, 1) := by decide +kernel
theorem dX4_show_8 : decode cX4_show 8 = .ok (.iaload, 1) := by decide +kernel
theorem dX4_show_9 : decode cX4_show 9 = .ok (.iconst (-1), 1) := by decide +kernel
theorem dX4_show_10 : decode cX4_show 10 = .ok (.if_icmp .eq 42, 3) := by decide +kernel
theorem dX4_show_13 : decode cX4_show 13 = .ok (.aload 4, 2) := by decide +kernel
theorem dX4_show_15 : decode cX4_show 15 = .ok (.aload_n 0, 1) := by decide +kernel
theorem dX4_show_16 : decode cX4_show 16 = .ok (.getfield 18, 3) := by decide +kernel
theorem dX4_show_19 : decode cX4_show 19 = .ok (.getfield 96, 3) := by decide +kernel
theorem dX4_show_22 : decode cX4_show 22 = .ok (.iload_n 2, 1) := by decide +kernel
theorem dX4_show_23 : decode cX4_show 23 = .ok (.iaload, 1) := by decide +kernel
theorem dX4_show_24 : decode cX4_show 24 = .ok (.aload_n 1, 1) := by decide +kernel
theorem dX4_show_25 : decode cX4_show 25 = .ok (.getfield 99, 3) := by decide +kernel
theorem dX4_show_28 : decode cX4_show 28 = .ok (.iload_n 2, 1) := by decide +kernel
theorem dX4_show_29 : decode cX4_show 29 = .ok (.iaload, 1) := by decide +kernel
theorem dX4_show_30 : decode cX4_show 30 = .ok (.aload_n 1, 1) := by decide +kernel
theorem dX4_show_31 : decode cX4_show 31 = .ok (.getfield 104, 3) := by decide +kernel
theorem dX4_show_34 : decode cX4_show 34 = .ok (.iload_n 2, 1) := by decide +kernel
theorem dX4_show_35 : decode cX4_show 35 = .ok (.iaload, 1) := by decide +kernel
theorem dX4_show_36 : decode cX4_show 36 = .ok (.aload_n 1, 1) := by decide +kernel
theorem dX4_show_37 : decode cX4_show 37 = .ok (.getfield 107, 3) := by decide +kernel
theorem dX4_show_40 : decode cX4_show 40 = .ok (.iload_n 2, 1) := by decide +kernel
theorem dX4_show_41 : decode cX4_show 41 = .ok (.iaload, 1) := by decide +kernel
theorem dX4_show_42 : decode cX4_show 42 = .ok (.aload_n 1, 1) := by decide +kernel
theorem dX4_show_43 : decode cX4_show 43 = .ok (.getfield 110, 3) := by decide +kernel
theorem dX4_show_46 : decode cX4_show 46 = .ok (.iload_n 2, 1) := by decide +kernel
theorem dX4_show_47 : decode cX4_show 47 = .ok (.iaload, 1) := by decide +kernel
theorem dX4_show_48 : decode cX4_show 48 = .ok (.invokevirtual 113, 3) := by decide +kernel
theorem dX4_show_51 : decode cX4_show 51 = .ok (.return_, 1) := by decide +kernel
theorem dX4_show_52 : decode cX4_show 52 = .ok (.aload 4, 2) := by decide +kernel
theorem dX4_show_54 : decode cX4_show 54 = .ok (.getfield 116, 3) := by decide +kernel
theorem dX4_show_57 : decode cX4_show 57 = .ok (.iload_n 3, 1) := by decide +kernel
theorem dX4_show_58 : decode cX4_show 58 = .ok (.aload_n 1, 1) := by decide +kernel
theorem dX4_show_59 : decode cX4_show 59 = .ok (.getfield 99, 3) := by decide +kernel
theorem dX4_show_62 : decode cX4_show 62 = .ok (.iload_n 2, 1) := by decide +kernel
theorem dX4_show_63 : decode cX4_show 63 = .ok (.iaload, 1) := by decide +kernel
theorem dX4_show_64 : decode cX4_show 64 = .ok (.aload_n 1, 1) := by decide +kernel
theorem dX4_show_65 : decode cX4_show 65 = .ok (.getfield 104, 3) := by decide +kernel
theorem dX4_show_68 : decode cX4_show 68 = .ok (.iload_n 2, 1) := by decide +kernel
theorem dX4_show_69 : decode cX4_show 69 = .ok (.iaload, 1) := by decide +kernel
theorem dX4_show_70 : decode cX4_show 70 = .ok (.aload_n 1, 1) := by decide +kernel
theorem dX4_show_71 : decode cX4_show 71 = .ok (.getfield 107, 3) := by decide +kernel
theorem dX4_show_74 : decode cX4_show 74 = .ok (.iload_n 2, 1) := by decide +kernel
theorem dX4_show_75 : decode cX4_show 75 = .ok (.iaload, 1) := by decide +kernel
theorem dX4_show_76 : decode cX4_show 76 = .ok (.aload_n 1, 1) := by decide +kernel
theorem dX4_show_77 : decode cX4_show 77 = .ok (.getfield 110, 3) := by decide +kernel
theorem dX4_show_80 : decode cX4_show 80 = .ok (.iload_n 2, 1) := by decide +kernel
theorem dX4_show_81 : decode cX4_show 81 = .ok (.iaload, 1) := by decide +kernel
theorem dX4_show_82 : decode cX4_show 82 = .ok (.invokevirtual 119, 3) := by decide +kernel
theorem dX4_show_85 : decode cX4_show 85 = .ok (.aload 4, 2) := by decide +kernel
theorem dX4_show_87 : decode cX4_show 87 = .ok (.getfield 116, 3) := by decide +kernel
theorem dX4_show_90 : decode cX4_show 90 = .ok (.getfield 122, 3) := by decide +kernel
theorem dX4_show_93 : decode cX4_show 93 = .ok (.iload_n 3, 1) := by decide +kernel
theorem dX4_show_94 : decode cX4_show 94 = .ok (.aload_n 0, 1) := by decide +kernel
theorem dX4_show_95 : decode cX4_show 95 = .ok (.getfield 18, 3) := by decide +kernel
theorem dX4_show_98 : decode cX4_show 98 = .ok (.getfield 125, 3) := by decide +kernel
theorem dX4_show_101 : decode cX4_show 101 = .ok (.iload_n 2, 1) := by decide +kernel
theorem dX4_show_102 : decode cX4_show 102 = .ok (.iaload, 1) := by decide +kernel
theorem dX4_show_103 : decode cX4_show 103 = .ok (.iastore, 1) := by decide +kernel
theorem dX4_show_104 : decode cX4_show 104 = .ok (.return_, 1) := by decide +kernel
theorem dX4_layAs_0 : decode cX4_layAs 0 = .ok (.iload_n 1, 1) := by decide +kernel
theorem dX4_layAs_1 : decode cX4_layAs 1 = .ok (.ifCond .lt 8, 3) := by decide +kernel
theorem dX4_layAs_4 : decode cX4_layAs 4 = .ok (.iload_n 1, 1) := by decide +kernel
theorem dX4_layAs_5 : decode cX4_layAs 5 = .ok (.iconst 2, 1) := by decide +kernel
theorem dX4_layAs_6 : decode cX4_layAs 6 = .ok (.if_icmp .le 7, 3) := by decide +kernel
theorem dX4_layAs_9 : decode cX4_layAs 9 = .ok (.iconst 1, 1) := by decide +kernel
theorem dX4_layAs_10 : decode cX4_layAs 10 = .ok (.goto 4, 3) := by decide +kernel
theorem dX4_layAs_13 : decode cX4_layAs 13 = .ok (.iconst 0, 1) := by decide +kernel
theorem dX4_layAs_14 : decode cX4_layAs 14 = .ok (.istore_n 3, 1) := by decide +kernel
theorem dX4_layAs_15 : decode cX4_layAs 15 = .ok (.iload_n 3, 1) := by decide +kernel
theorem dX4_layAs_16 : decode cX4_layAs 16 = .ok (.ifCond .eq 7, 3) := by decide +kernel
theorem dX4_layAs_19 : decode cX4_layAs 19 = .ok (.iconst 0, 1) := by decide +kernel
theorem dX4_layAs_20 : decode cX4_layAs 20 = .ok (.goto 4, 3) := by decide +kernel
theorem dX4_layAs_23 : decode cX4_layAs 23 = .ok (.iload_n 1, 1) := by decide +kernel
theorem dX4_layAs_24 : decode cX4_layAs 24 = .ok (.istore 4, 2) := by decide +kernel
theorem dX4_layAs_26 : decode cX4_layAs 26 = .ok (.iload_n 3, 1) := by decide +kernel
theorem dX4_layAs_27 : decode cX4_layAs 27 = .ok (.ifCond .eq 7, 3) := by decide +kernel
theorem dX4_layAs_30 : decode cX4_layAs 30 = .ok (.iconst 2, 1) := by decide +kernel
theorem dX4_layAs_31 : decode cX4_layAs 31 = .ok (.goto 4, 3) := by decide +kernel
theorem dX4_layAs_34 : decode cX4_layAs 34 = .ok (.iload_n 1, 1) := by decide +kernel
theorem dX4_layAs_35 : decode cX4_layAs 35 = .ok (.istore 5, 2) := by decide +kernel
theorem dX4_layAs_37 : decode cX4_layAs 37 = .ok (.ldc 128, 2) := by decide +kernel
theorem dX4_layAs_39 : decode cX4_layAs 39 = .ok (.istore 6, 2) := by decide +kernel
theorem dX4_layAs_41 : decode cX4_layAs 41 = .ok (.iload 4, 2) := by decide +kernel
theorem dX4_layAs_43 : decode cX4_layAs 43 = .ok (.istore 7, 2) := by decide +kernel
theorem dX4_layAs_45 : decode cX4_layAs 45 = .ok (.iload 7, 2) := by decide +kernel
theorem dX4_layAs_47 : decode cX4_layAs 47 = .ok (.iload 5, 2) := by decide +kernel
theorem dX4_layAs_49 : decode cX4_layAs 49 = .ok (.if_icmp .gt 110, 3) := by decide +kernel
theorem dX4_layAs_52 : decode cX4_layAs 52 = .ok (.iload 7, 2) := by decide +kernel
theorem dX4_layAs_54 : decode cX4_layAs 54 = .ok (.iconst 1, 1) := by decide +kernel
theorem dX4_layAs_55 : decode cX4_layAs 55 = .ok (.if_icmp .ne 17, 3) := by decide +kernel
theorem dX4_layAs_58 : decode cX4_layAs 58 = .ok (.aload_n 0, 1) := by decide +kernel
theorem dX4_layAs_59 : decode cX4_layAs 59 = .ok (.getfield 25, 3) := by decide +kernel
theorem dX4_layAs_62 : decode cX4_layAs 62 = .ok (.aload_n 0, 1) := by decide +kernel
theorem dX4_layAs_63 : decode cX4_layAs 63 = .ok (.getfield 18, 3) := by decide +kernel
theorem dX4_layAs_66 : decode cX4_layAs 66 = .ok (.invokevirtual 129, 3) := by decide +kernel
theorem dX4_layAs_69 : decode cX4_layAs 69 = .ok (.goto 33, 3) := by decide +kernel
theorem dX4_layAs_72 : decode cX4_layAs 72 = .ok (.iload 7, 2) := by decide +kernel
theorem dX4_layAs_74 : decode cX4_layAs 74 = .ok (.iconst 2, 1) := by decide +kernel
theorem dX4_layAs_75 : decode cX4_layAs 75 = .ok (.if_icmp .ne 17, 3) := by decide +kernel
theorem dX4_layAs_78 : decode cX4_layAs 78 = .ok (.aload_n 0, 1) := by decide +kernel
theorem dX4_layAs_79 : decode cX4_layAs 79 = .ok (.getfield 32, 3) := by decide +kernel
theorem dX4_layAs_82 : decode cX4_layAs 82 = .ok (.aload_n 0, 1) := by decide +kernel
theorem dX4_layAs_83 : decode cX4_layAs 83 = .ok (.getfield 18, 3) := by decide +kernel
theorem dX4_layAs_86 : decode cX4_layAs 86 = .ok (.invokevirtual 133, 3) := by decide +kernel
theorem dX4_layAs_89 : decode cX4_layAs 89 = .ok (.goto 13, 3) := by decide +kernel
theorem dX4_layAs_92 : decode cX4_layAs 92 = .ok (.aload_n 0, 1) := by decide +kernel
theorem dX4_layAs_93 : decode cX4_layAs 93 = .ok (.aload_n 0, 1) := by decide +kernel
theorem dX4_layAs_94 : decode cX4_layAs 94 = .ok (.getfield 44, 3) := by decide +kernel
theorem dX4_layAs_97 : decode cX4_layAs 97 = .ok (.iconst 0, 1) := by decide +kernel
theorem dX4_layAs_98 : decode cX4_layAs 98 = .ok (.aaload, 1) := by decide +kernel
theorem dX4_layAs_99 : decode cX4_layAs 99 = .ok (.invokevirtual 134, 3) := by decide +kernel
theorem dX4_layAs_102 : decode cX4_layAs 102 = .ok (.aload_n 0, 1) := by decide +kernel
theorem dX4_layAs_103 : decode cX4_layAs 103 = .ok (.getfield 44, 3) := by decide +kernel
theorem dX4_layAs_106 : decode cX4_layAs 106 = .ok (.iload 7, 2) := by decide +kernel
theorem dX4_layAs_108 : decode cX4_layAs 108 = .ok (.aaload, 1) := by decide +kernel
theorem dX4_layAs_109 : decode cX4_layAs 109 = .ok (.getfield 94, 3) := by decide +kernel
theorem dX4_layAs_112 : decode cX4_layAs 112 = .ok (.aload_n 0, 1) := by decide +kernel
theorem dX4_layAs_113 : decode cX4_layAs 113 = .ok (.getfield 9, 3) := by decide +kernel
theorem dX4_layAs_116 : decode cX4_layAs 116 = .ok (.aload_n 0, 1) := by decide +kernel
theorem dX4_layAs_117 : decode cX4_layAs 117 = .ok (.aload_n 0, 1) := by decide +kernel
theorem dX4_layAs_118 : decode cX4_layAs 118 = .ok (.getfield 44, 3) := by decide +kernel
theorem dX4_layAs_121 : decode cX4_layAs 121 = .ok (.iload 7, 2) := by decide +kernel
theorem dX4_layAs_123 : decode cX4_layAs 123 = .ok (.aaload, 1) := by decide +kernel
theorem dX4_layAs_124 : decode cX4_layAs 124 = .ok (.getfield 73, 3) := by decide +kernel
theorem dX4_layAs_127 : decode cX4_layAs 127 = .ok (.aload_n 2, 1) := by decide +kernel
theorem dX4_layAs_128 : decode cX4_layAs 128 = .ok (.invokevirtual 137, 3) := by decide +kernel
theorem dX4_layAs_131 : decode cX4_layAs 131 = .ok (.imul, 1) := by decide +kernel
theorem dX4_layAs_132 : decode cX4_layAs 132 = .ok (.bipush 100, 2) := by decide +kernel
theorem dX4_layAs_134 : decode cX4_layAs 134 = .ok (.idiv, 1) := by decide +kernel
theorem dX4_layAs_135 : decode cX4_layAs 135 = .ok (.iadd, 1) := by decide +kernel
theorem dX4_layAs_136 : decode cX4_layAs 136 = .ok (.istore 8, 2) := by decide +kernel
theorem dX4_layAs_138 : decode cX4_layAs 138 = .ok (.iload 8, 2) := by decide +kernel
theorem dX4_layAs_140 : decode cX4_layAs 140 = .ok (.iload 6, 2) := by decide +kernel
theorem dX4_layAs_142 : decode cX4_layAs 142 = .ok (.if_icmp .ge 11, 3) := by decide +kernel
theorem dX4_layAs_145 : decode cX4_layAs 145 = .ok (.iload 8, 2) := by decide +kernel
theorem dX4_layAs_147 : decode cX4_layAs 147 = .ok (.istore 6, 2) := by decide +kernel
theorem dX4_layAs_149 : decode cX4_layAs 149 = .ok (.iload 7, 2) := by decide +kernel
theorem dX4_layAs_151 : decode cX4_layAs 151 = .ok (.istore 4, 2) := by decide +kernel
theorem dX4_layAs_153 : decode cX4_layAs 153 = .ok (.iinc 7 1, 3) := by decide +kernel
theorem dX4_layAs_156 : decode cX4_layAs 156 = .ok (.goto (-111), 3) := by decide +kernel
theorem dX4_layAs_159 : decode cX4_layAs 159 = .ok (.iload 4, 2) := by decide +kernel
theorem dX4_layAs_161 : decode cX4_layAs 161 = .ok (.ireturn, 1) := by decide +kernel
theorem dX4_movesOf_0 : decode cX4_movesOf 0 = .ok (.iconst 0, 1) := by decide +kernel
theorem dX4_movesOf_1 : decode cX4_movesOf 1 = .ok (.istore_n 3, 1) := by decide +kernel
theorem dX4_movesOf_2 : decode cX4_movesOf 2 = .ok (.iconst 0, 1) := by decide +kernel
theorem dX4_movesOf_3 : decode cX4_movesOf 3 = .ok (.istore 4, 2) := by decide +kernel
theorem dX4_movesOf_5 : decode cX4_movesOf 5 = .ok (.iload 4, 2) := by decide +kernel
theorem dX4_movesOf_7 : decode cX4_movesOf 7 = .ok (.aload_n 0, 1) := by decide +kernel
theorem dX4_movesOf_8 : decode cX4_movesOf 8 = .ok (.getfield 18, 3) := by decide +kernel
theorem dX4_movesOf_11 : decode cX4_movesOf 11 = .ok (.getfield 52, 3) := by decide +kernel
theorem dX4_movesOf_14 : decode cX4_movesOf 14 = .ok (.if_icmp .ge 81, 3) := by decide +kernel
theorem dX4_movesOf_17 : decode cX4_movesOf 17 = .ok (.aload_n 2, 1) := by decide +kernel
theorem dX4_movesOf_18 : decode cX4_movesOf 18 = .ok (.getfield 141, 3) := by decide +kernel
theorem dX4_movesOf_21 : decode cX4_movesOf 21 = .ok (.iconst 1, 1) := by decide +kernel
theorem dX4_movesOf_22 : decode cX4_movesOf 22 = .ok (.if_icmp .le 73, 3) := by decide +kernel
theorem dX4_movesOf_25 : decode cX4_movesOf 25 = .ok (.aload_n 0, 1) := by decide +kernel
theorem dX4_movesOf_26 : decode cX4_movesOf 26 = .ok (.getfield 18, 3) := by decide +kernel
theorem dX4_movesOf_29 : decode cX4_movesOf 29 = .ok (.getfield 96, 3) := by decide +kernel
theorem dX4_movesOf_32 : decode cX4_movesOf 32 = .ok (.iload 4, 2) := by decide +kernel
theorem dX4_movesOf_34 : decode cX4_movesOf 34 = .ok (.iaload, 1) := by decide +kernel
theorem dX4_movesOf_35 : decode cX4_movesOf 35 = .ok (.iconst (-1), 1) := by decide +kernel
theorem dX4_movesOf_36 : decode cX4_movesOf 36 = .ok (.if_icmp .ne 6, 3) := by decide +kernel
theorem dX4_movesOf_39 : decode cX4_movesOf 39 = .ok (.goto 50, 3) := by decide +kernel
theorem dX4_movesOf_42 : decode cX4_movesOf 42 = .ok (.aload_n 2, 1) := by decide +kernel
theorem dX4_movesOf_43 : decode cX4_movesOf 43 = .ok (.aload_n 2, 1) := by decide +kernel
theorem dX4_movesOf_44 : decode cX4_movesOf 44 = .ok (.getfield 141, 3) := by decide +kernel
theorem dX4_movesOf_47 : decode cX4_movesOf 47 = .ok (.iconst 2, 1) := by decide +kernel
theorem dX4_movesOf_48 : decode cX4_movesOf 48 = .ok (.isub, 1) := by decide +kernel
theorem dX4_movesOf_49 : decode cX4_movesOf 49 = .ok (.aload_n 0, 1) := by decide +kernel
theorem dX4_movesOf_50 : decode cX4_movesOf 50 = .ok (.getfield 18, 3) := by decide +kernel
theorem dX4_movesOf_53 : decode cX4_movesOf 53 = .ok (.getfield 96, 3) := by decide +kernel
theorem dX4_movesOf_56 : decode cX4_movesOf 56 = .ok (.iload 4, 2) := by decide +kernel
theorem dX4_movesOf_58 : decode cX4_movesOf 58 = .ok (.iaload, 1) := by decide +kernel
theorem dX4_movesOf_59 : decode cX4_movesOf 59 = .ok (.invokevirtual 144, 3) := by decide +kernel
theorem dX4_movesOf_62 : decode cX4_movesOf 62 = .ok (.istore 5, 2) := by decide +kernel
theorem dX4_movesOf_64 : decode cX4_movesOf 64 = .ok (.aload_n 2, 1) := by decide +kernel
theorem dX4_movesOf_65 : decode cX4_movesOf 65 = .ok (.getfield 147, 3) := by decide +kernel
theorem dX4_movesOf_68 : decode cX4_movesOf 68 = .ok (.iload 5, 2) := by decide +kernel
theorem dX4_movesOf_70 : decode cX4_movesOf 70 = .ok (.baload, 1) := by decide +kernel
theorem dX4_movesOf_71 : decode cX4_movesOf 71 = .ok (.ifCond .eq 18, 3) := by decide +kernel
theorem dX4_movesOf_74 : decode cX4_movesOf 74 = .ok (.iload_n 3, 1) := by decide +kernel
theorem dX4_movesOf_75 : decode cX4_movesOf 75 = .ok (.aload_n 1, 1) := by decide +kernel
theorem dX4_movesOf_76 : decode cX4_movesOf 76 = .ok (.iload 4, 2) := by decide +kernel
theorem dX4_movesOf_78 : decode cX4_movesOf 78 = .ok (.aload_n 2, 1) := by decide +kernel
theorem dX4_movesOf_79 : decode cX4_movesOf 79 = .ok (.getfield 151, 3) := by decide +kernel
theorem dX4_movesOf_82 : decode cX4_movesOf 82 = .ok (.iload 5, 2) := by decide +kernel
theorem dX4_movesOf_84 : decode cX4_movesOf 84 = .ok (.invokevirtual 153, 3) := by decide +kernel
theorem dX4_movesOf_87 : decode cX4_movesOf 87 = .ok (.iadd, 1) := by decide +kernel
theorem dX4_movesOf_88 : decode cX4_movesOf 88 = .ok (.istore_n 3, 1) := by decide +kernel
theorem dX4_movesOf_89 : decode cX4_movesOf 89 = .ok (.iinc 4 1, 3) := by decide +kernel
theorem dX4_movesOf_92 : decode cX4_movesOf 92 = .ok (.goto (-87), 3) := by decide +kernel
theorem dX4_movesOf_95 : decode cX4_movesOf 95 = .ok (.iload_n 3, 1) := by decide +kernel
theorem dX4_movesOf_96 : decode cX4_movesOf 96 = .ok (.ireturn, 1) := by decide +kernel
theorem dX4_layNothing_0 : decode cX4_layNothing 0 = .ok (.aload_n 1, 1) := by decide +kernel
theorem dX4_layNothing_1 : decode cX4_layNothing 1 = .ok (.iconst 0, 1) := by decide +kernel
theorem dX4_layNothing_2 : decode cX4_layNothing 2 = .ok (.putfield 94, 3) := by decide +kernel
theorem dX4_layNothing_5 : decode cX4_layNothing 5 = .ok (.iconst 0, 1) := by decide +kernel
theorem dX4_layNothing_6 : decode cX4_layNothing 6 = .ok (.istore_n 2, 1) := by decide +kernel
theorem dX4_layNothing_7 : decode cX4_layNothing 7 = .ok (.iload_n 2, 1) := by decide +kernel
theorem dX4_layNothing_8 : decode cX4_layNothing 8 = .ok (.aload_n 0, 1) := by decide +kernel
theorem dX4_layNothing_9 : decode cX4_layNothing 9 = .ok (.getfield 18, 3) := by decide +kernel
theorem dX4_layNothing_12 : decode cX4_layNothing 12 = .ok (.getfield 52, 3) := by decide +kernel
theorem dX4_layNothing_15 : decode cX4_layNothing 15 = .ok (.if_icmp .ge 34, 3) := by decide +kernel
theorem dX4_layNothing_18 : decode cX4_layNothing 18 = .ok (.aload_n 1, 1) := by decide +kernel
theorem dX4_layNothing_19 : decode cX4_layNothing 19 = .ok (.aload_n 0, 1) := by decide +kernel
theorem dX4_layNothing_20 : decode cX4_layNothing 20 = .ok (.getfield 18, 3) := by decide +kernel
theorem dX4_layNothing_23 : decode cX4_layNothing 23 = .ok (.iload_n 2, 1) := by decide +kernel
theorem dX4_layNothing_24 : decode cX4_layNothing 24 = .ok (.aload_n 0, 1) := by decide +kernel
theorem dX4_layNothing_25 : decode cX4_layNothing 25 = .ok (.getfield 18, 3) := by decide +kernel
theorem dX4_layNothing_28 : decode cX4_layNothing 28 = .ok (.getfield 157, 3) := by decide +kernel
theorem dX4_layNothing_31 : decode cX4_layNothing 31 = .ok (.aload_n 0, 1) := by decide +kernel
theorem dX4_layNothing_32 : decode cX4_layNothing 32 = .ok (.getfield 18, 3) := by decide +kernel
theorem dX4_layNothing_35 : decode cX4_layNothing 35 = .ok (.getfield 159, 3) := by decide +kernel
theorem dX4_layNothing_38 : decode cX4_layNothing 38 = .ok (.iconst 0, 1) := by decide +kernel
theorem dX4_layNothing_39 : decode cX4_layNothing 39 = .ok (.iconst 0, 1) := by decide +kernel
theorem dX4_layNothing_40 : decode cX4_layNothing 40 = .ok (.invokevirtual 161, 3) := by decide +kernel
theorem dX4_layNothing_43 : decode cX4_layNothing 43 = .ok (.iinc 2 1, 3) := by decide +kernel

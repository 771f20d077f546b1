theorem dX10_init_51 : decode cX10_init 51 = .ok (.putfield 31, 3) := by decide +kernel
theorem dX10_init_54 : decode cX10_init 54 = .ok (.aload_n 0, 1) := by decide +kernel
theorem dX10_init_55 : decode cX10_init 55 = .ok (.bipush 40, 2) := by decide +kernel
theorem dX10_init_57 : decode cX10_init 57 = .ok (.newarray .int, 2) := by decide +kernel
theorem dX10_init_59 : decode cX10_init 59 = .ok (.putfield 34, 3) := by decide +kernel
theorem dX10_init_62 : decode cX10_init 62 = .ok (.aload_n 0, 1) := by decide +kernel
theorem dX10_init_63 : decode cX10_init 63 = .ok (.bipush 40, 2) := by decide +kernel
theorem dX10_init_65 : decode cX10_init 65 = .ok (.newarray .boolean, 2) := by decide +kernel
theorem dX10_init_67 : decode cX10_init 67 = .ok (.putfield 37, 3) := by decide +kernel
theorem dX10_init_70 : decode cX10_init 70 = .ok (.aload_n 0, 1) := by decide +kernel
theorem dX10_init_71 : decode cX10_init 71 = .ok (.bipush 40, 2) := by decide +kernel
theorem dX10_init_73 : decode cX10_init 73 = .ok (.newarray .int, 2) := by decide +kernel
theorem dX10_init_75 : decode cX10_init 75 = .ok (.putfield 41, 3) := by decide +kernel
theorem dX10_init_78 : decode cX10_init 78 = .ok (.aload_n 0, 1) := by decide +kernel
theorem dX10_init_79 : decode cX10_init 79 = .ok (.bipush 40, 2) := by decide +kernel
theorem dX10_init_81 : decode cX10_init 81 = .ok (.newarray .boolean, 2) := by decide +kernel
theorem dX10_init_83 : decode cX10_init 83 = .ok (.putfield 44, 3) := by decide +kernel
theorem dX10_init_86 : decode cX10_init 86 = .ok (.aload_n 0, 1) := by decide +kernel
theorem dX10_init_87 : decode cX10_init 87 = .ok (.sipush 320, 3) := by decide +kernel
theorem dX10_init_90 : decode cX10_init 90 = .ok (.newarray .byte, 2) := by decide +kernel
theorem dX10_init_92 : decode cX10_init 92 = .ok (.putfield 47, 3) := by decide +kernel
theorem dX10_init_95 : decode cX10_init 95 = .ok (.return_, 1) := by decide +kernel
theorem dX10_has_0 : decode cX10_has 0 = .ok (.iload_n 1, 1) := by decide +kernel
theorem dX10_has_1 : decode cX10_has 1 = .ok (.ifCond .lt 15, 3) := by decide +kernel
theorem dX10_has_4 : decode cX10_has 4 = .ok (.iload_n 1, 1) := by decide +kernel
theorem dX10_has_5 : decode cX10_has 5 = .ok (.aload_n 0, 1) := by decide +kernel
theorem dX10_has_6 : decode cX10_has 6 = .ok (.getfield 9, 3) := by decide +kernel
theorem dX10_has_9 : decode cX10_has 9 = .ok (.if_icmp .ge 7, 3) := by decide +kernel
theorem dX10_has_12 : decode cX10_has 12 = .ok (.iconst 1, 1) := by decide +kernel
theorem dX10_has_13 : decode cX10_has 13 = .ok (.goto 4, 3) := by decide +kernel
theorem dX10_has_16 : decode cX10_has 16 = .ok (.iconst 0, 1) := by decide +kernel
theorem dX10_has_17 : decode cX10_has 17 = .ok (.ireturn, 1) := by decide +kernel
theorem dX10_isGroup_0 : decode cX10_isGroup 0 = .ok (.aload_n 0, 1) := by decide +kernel
theorem dX10_isGroup_1 : decode cX10_isGroup 1 = .ok (.iload_n 1, 1) := by decide +kernel
theorem dX10_isGroup_2 : decode cX10_isGroup 2 = .ok (.invokevirtual 51, 3) := by decide +kernel
theorem dX10_isGroup_5 : decode cX10_isGroup 5 = .ok (.ifCond .eq 17, 3) := by decide +kernel
theorem dX10_isGroup_8 : decode cX10_isGroup 8 = .ok (.aload_n 0, 1) := by decide +kernel
theorem dX10_isGroup_9 : decode cX10_isGroup 9 = .ok (.getfield 22, 3) := by decide +kernel
theorem dX10_isGroup_12 : decode cX10_isGroup 12 = .ok (.iload_n 1, 1) := by decide +kernel
theorem dX10_isGroup_13 : decode cX10_isGroup 13 = .ok (.iaload, 1) := by decide +kernel
theorem dX10_isGroup_14 : decode cX10_isGroup 14 = .ok (.iconst (-1), 1) := by decide +kernel
theorem dX10_isGroup_15 : decode cX10_isGroup 15 = .ok (.if_icmp .eq 7, 3) := by decide +kernel
theorem dX10_isGroup_18 : decode cX10_isGroup 18 = .ok (.iconst 1, 1) := by decide +kernel
theorem dX10_isGroup_19 : decode cX10_isGroup 19 = .ok (.goto 4, 3) := by decide +kernel
theorem dX10_isGroup_22 : decode cX10_isGroup 22 = .ok (.iconst 0, 1) := by decide +kernel
theorem dX10_isGroup_23 : decode cX10_isGroup 23 = .ok (.ireturn, 1) := by decide +kernel
theorem dX10_isLeaf_0 : decode cX10_isLeaf 0 = .ok (.aload_n 0, 1) := by decide +kernel
theorem dX10_isLeaf_1 : decode cX10_isLeaf 1 = .ok (.iload_n 1, 1) := by decide +kernel
theorem dX10_isLeaf_2 : decode cX10_isLeaf 2 = .ok (.invokevirtual 51, 3) := by decide +kernel
theorem dX10_isLeaf_5 : decode cX10_isLeaf 5 = .ok (.ifCond .eq 17, 3) := by decide +kernel
theorem dX10_isLeaf_8 : decode cX10_isLeaf 8 = .ok (.aload_n 0, 1) := by decide +kernel
theorem dX10_isLeaf_9 : decode cX10_isLeaf 9 = .ok (.getfield 22, 3) := by decide +kernel
theorem dX10_isLeaf_12 : decode cX10_isLeaf 12 = .ok (.iload_n 1, 1) := by decide +kernel
theorem dX10_isLeaf_13 : decode cX10_isLeaf 13 = .ok (.iaload, 1) := by decide +kernel
theorem dX10_isLeaf_14 : decode cX10_isLeaf 14 = .ok (.iconst (-1), 1) := by decide +kernel
theorem dX10_isLeaf_15 : decode cX10_isLeaf 15 = .ok (.if_icmp .ne 7, 3) := by decide +kernel
theorem dX10_isLeaf_18 : decode cX10_isLeaf 18 = .ok (.iconst 1, 1) := by decide +kernel
theorem dX10_isLeaf_19 : decode cX10_isLeaf 19 = .ok (.goto 4, 3) := by decide +kernel
theorem dX10_isLeaf_22 : decode cX10_isLeaf 22 = .ok (.iconst 0, 1) := by decide +kernel
theorem dX10_isLeaf_23 : decode cX10_isLeaf 23 = .ok (.ireturn, 1) := by decide +kernel
theorem dX10_nameByte_0 : decode cX10_nameByte 0 = .ok (.aload_n 0, 1) := by decide +kernel
theorem dX10_nameByte_1 : decode cX10_nameByte 1 = .ok (.getfield 47, 3) := by decide +kernel
theorem dX10_nameByte_4 : decode cX10_nameByte 4 = .ok (.iload_n 1, 1) := by decide +kernel
theorem dX10_nameByte_5 : decode cX10_nameByte 5 = .ok (.bipush 8, 2) := by decide +kernel
theorem dX10_nameByte_7 : decode cX10_nameByte 7 = .ok (.imul, 1) := by decide +kernel
theorem dX10_nameByte_8 : decode cX10_nameByte 8 = .ok (.iload_n 2, 1) := by decide +kernel
theorem dX10_nameByte_9 : decode cX10_nameByte 9 = .ok (.iadd, 1) := by decide +kernel
theorem dX10_nameByte_10 : decode cX10_nameByte 10 = .ok (.baload, 1) := by decide +kernel
theorem dX10_nameByte_11 : decode cX10_nameByte 11 = .ok (.sipush 255, 3) := by decide +kernel
theorem dX10_nameByte_14 : decode cX10_nameByte 14 = .ok (.iand, 1) := by decide +kernel
theorem dX10_nameByte_15 : decode cX10_nameByte 15 = .ok (.ireturn, 1) := by decide +kernel
theorem dX10_addBox_0 : decode cX10_addBox 0 = .ok (.aload_n 0, 1) := by decide +kernel
theorem dX10_addBox_1 : decode cX10_addBox 1 = .ok (.getfield 9, 3) := by decide +kernel
theorem dX10_addBox_4 : decode cX10_addBox 4 = .ok (.bipush 40, 2) := by decide +kernel
theorem dX10_addBox_6 : decode cX10_addBox 6 = .ok (.if_icmp .lt 4, 3) := by decide +kernel
theorem dX10_addBox_9 : decode cX10_addBox 9 = .ok (.return_, 1) := by decide +kernel
theorem dX10_addBox_10 : decode cX10_addBox 10 = .ok (.aload_n 0, 1) := by decide +kernel
theorem dX10_addBox_11 : decode cX10_addBox 11 = .ok (.getfield 9, 3) := by decide +kernel
theorem dX10_addBox_14 : decode cX10_addBox 14 = .ok (.istore 5, 2) := by decide +kernel
theorem dX10_addBox_16 : decode cX10_addBox 16 = .ok (.aload_n 0, 1) := by decide +kernel
theorem dX10_addBox_17 : decode cX10_addBox 17 = .ok (.dup, 1) := by decide +kernel
theorem dX10_addBox_18 : decode cX10_addBox 18 = .ok (.getfield 9, 3) := by decide +kernel
theorem dX10_addBox_21 : decode cX10_addBox 21 = .ok (.iconst 1, 1) := by decide +kernel
theorem dX10_addBox_22 : decode cX10_addBox 22 = .ok (.iadd, 1) := by decide +kernel
theorem dX10_addBox_23 : decode cX10_addBox 23 = .ok (.putfield 9, 3) := by decide +kernel
theorem dX10_addBox_26 : decode cX10_addBox 26 = .ok (.aload_n 0, 1) := by decide +kernel
theorem dX10_addBox_27 : decode cX10_addBox 27 = .ok (.getfield 18, 3) := by decide +kernel
theorem dX10_addBox_30 : decode cX10_addBox 30 = .ok (.iload 5, 2) := by decide +kernel
theorem dX10_addBox_32 : decode cX10_addBox 32 = .ok (.iload_n 1, 1) := by decide +kernel
theorem dX10_addBox_33 : decode cX10_addBox 33 = .ok (.iastore, 1) := by decide +kernel
theorem dX10_addBox_34 : decode cX10_addBox 34 = .ok (.aload_n 0, 1) := by decide +kernel
theorem dX10_addBox_35 : decode cX10_addBox 35 = .ok (.getfield 22, 3) := by decide +kernel
theorem dX10_addBox_38 : decode cX10_addBox 38 = .ok (.iload 5, 2) := by decide +kernel
theorem dX10_addBox_40 : decode cX10_addBox 40 = .ok (.iconst (-1), 1) := by decide +kernel
theorem dX10_addBox_41 : decode cX10_addBox 41 = .ok (.iastore, 1) := by decide +kernel
theorem dX10_addBox_42 : decode cX10_addBox 42 = .ok (.aload_n 0, 1) := by decide +kernel
theorem dX10_addBox_43 : decode cX10_addBox 43 = .ok (.getfield 25, 3) := by decide +kernel
theorem dX10_addBox_46 : decode cX10_addBox 46 = .ok (.iload 5, 2) := by decide +kernel
theorem dX10_addBox_48 : decode cX10_addBox 48 = .ok (.iconst 0, 1) := by decide +kernel
theorem dX10_addBox_49 : decode cX10_addBox 49 = .ok (.iastore, 1) := by decide +kernel
theorem dX10_addBox_50 : decode cX10_addBox 50 = .ok (.aload_n 0, 1) := by decide +kernel
theorem dX10_addBox_51 : decode cX10_addBox 51 = .ok (.getfield 28, 3) := by decide +kernel
theorem dX10_addBox_54 : decode cX10_addBox 54 = .ok (.iload 5, 2) := by decide +kernel
theorem dX10_addBox_56 : decode cX10_addBox 56 = .ok (.iconst 0, 1) := by decide +kernel
theorem dX10_addBox_57 : decode cX10_addBox 57 = .ok (.iastore, 1) := by decide +kernel
theorem dX10_addBox_58 : decode cX10_addBox 58 = .ok (.aload_n 0, 1) := by decide +kernel
theorem dX10_addBox_59 : decode cX10_addBox 59 = .ok (.getfield 31, 3) := by decide +kernel
theorem dX10_addBox_62 : decode cX10_addBox 62 = .ok (.iload 5, 2) := by decide +kernel
theorem dX10_addBox_64 : decode cX10_addBox 64 = .ok (.iconst 0, 1) := by decide +kernel
theorem dX10_addBox_65 : decode cX10_addBox 65 = .ok (.iastore, 1) := by decide +kernel
theorem dX10_addBox_66 : decode cX10_addBox 66 = .ok (.aload_n 0, 1) := by decide +kernel
theorem dX10_addBox_67 : decode cX10_addBox 67 = .ok (.getfield 37, 3) := by decide +kernel
theorem dX10_addBox_70 : decode cX10_addBox 70 = .ok (.iload 5, 2) := by decide +kernel
theorem dX10_addBox_72 : decode cX10_addBox 72 = .ok (.iconst 0, 1) := by decide +kernel
theorem dX10_addBox_73 : decode cX10_addBox 73 = .ok (.bastore, 1) := by decide +kernel
theorem dX10_addBox_74 : decode cX10_addBox 74 = .ok (.aload_n 0, 1) := by decide +kernel
theorem dX10_addBox_75 : decode cX10_addBox 75 = .ok (.getfield 41, 3) := by decide +kernel
theorem dX10_addBox_78 : decode cX10_addBox 78 = .ok (.iload 5, 2) := by decide +kernel
theorem dX10_addBox_80 : decode cX10_addBox 80 = .ok (.iconst 0, 1) := by decide +kernel
theorem dX10_addBox_81 : decode cX10_addBox 81 = .ok (.iastore, 1) := by decide +kernel
theorem dX10_addBox_82 : decode cX10_addBox 82 = .ok (.aload_n 0, 1) := by decide +kernel
theorem dX10_addBox_83 : decode cX10_addBox 83 = .ok (.getfield 44, 3) := by decide +kernel
theorem dX10_addBox_86 : decode cX10_addBox 86 = .ok (.iload 5, 2) := by decide +kernel
theorem dX10_addBox_88 : decode cX10_addBox 88 = .ok (.iconst 0, 1) := by decide +kernel
theorem dX10_addBox_89 : decode cX10_addBox 89 = .ok (.bastore, 1) := by decide +kernel
theorem dX10_addBox_90 : decode cX10_addBox 90 = .ok (.aload_n 0, 1) := by decide +kernel
theorem dX10_addBox_91 : decode cX10_addBox 91 = .ok (.iload_n 1, 1) := by decide +kernel
theorem dX10_addBox_92 : decode cX10_addBox 92 = .ok (.invokevirtual 51, 3) := by decide +kernel
theorem dX10_addBox_95 : decode cX10_addBox 95 = .ok (.ifCond .eq 28, 3) := by decide +kernel
theorem dX10_addBox_98 : decode cX10_addBox 98 = .ok (.aload_n 0, 1) := by decide +kernel
theorem dX10_addBox_99 : decode cX10_addBox 99 = .ok (.getfield 25, 3) := by decide +kernel
theorem dX10_addBox_102 : decode cX10_addBox 102 = .ok (.iload_n 1, 1) := by decide +kernel
theorem dX10_addBox_103 : decode cX10_addBox 103 = .ok (.dup2, 1) := by decide +kernel
theorem dX10_addBox_104 : decode cX10_addBox 104 = .ok (.iaload, 1) := by decide +kernel
theorem dX10_addBox_105 : decode cX10_addBox 105 = .ok (.iconst 1, 1) := by decide +kernel
theorem dX10_addBox_106 : decode cX10_addBox 106 = .ok (.iadd, 1) := by decide +kernel
theorem dX10_addBox_107 : decode cX10_addBox 107 = .ok (.iastore, 1) := by decide +kernel
theorem dX10_addBox_108 : decode cX10_addBox 108 = .ok (.aload_n 0, 1) := by decide +kernel
theorem dX10_addBox_109 : decode cX10_addBox 109 = .ok (.getfield 28, 3) := by decide +kernel
theorem dX10_addBox_112 : decode cX10_addBox 112 = .ok (.iload 5, 2) := by decide +kernel
theorem dX10_addBox_114 : decode cX10_addBox 114 = .ok (.aload_n 0, 1) := by decide +kernel
theorem dX10_addBox_115 : decode cX10_addBox 115 = .ok (.getfield 28, 3) := by decide +kernel
theorem dX10_addBox_118 : decode cX10_addBox 118 = .ok (.iload_n 1, 1) := by decide +kernel
theorem dX10_addBox_119 : decode cX10_addBox 119 = .ok (.iaload, 1) := by decide +kernel
theorem dX10_addBox_120 : decode cX10_addBox 120 = .ok (.iconst 1, 1) := by decide +kernel
theorem dX10_addBox_121 : decode cX10_addBox 121 = .ok (.iadd, 1) := by decide +kernel
theorem dX10_addBox_122 : decode cX10_addBox 122 = .ok (.iastore, 1) := by decide +kernel
theorem dX10_addBox_123 : decode cX10_addBox 123 = .ok (.aload_n 0, 1) := by decide +kernel
theorem dX10_addBox_124 : decode cX10_addBox 124 = .ok (.getfield 34, 3) := by decide +kernel
theorem dX10_addBox_127 : decode cX10_addBox 127 = .ok (.iload 5, 2) := by decide +kernel
theorem dX10_addBox_129 : decode cX10_addBox 129 = .ok (.iload 4, 2) := by decide +kernel
theorem dX10_addBox_131 : decode cX10_addBox 131 = .ok (.iload_n 3, 1) := by decide +kernel
theorem dX10_addBox_132 : decode cX10_addBox 132 = .ok (.isub, 1) := by decide +kernel
theorem dX10_addBox_133 : decode cX10_addBox 133 = .ok (.bipush 8, 2) := by decide +kernel
theorem dX10_addBox_135 : decode cX10_addBox 135 = .ok (.invokestatic 55, 3) := by decide +kernel
theorem dX10_addBox_138 : decode cX10_addBox 138 = .ok (.iastore, 1) := by decide +kernel
theorem dX10_addBox_139 : decode cX10_addBox 139 = .ok (.iconst 0, 1) := by decide +kernel
theorem dX10_addBox_140 : decode cX10_addBox 140 = .ok (.istore 6, 2) := by decide +kernel
theorem dX10_addBox_142 : decode cX10_addBox 142 = .ok (.iload 6, 2) := by decide +kernel
theorem dX10_addBox_144 : decode cX10_addBox 144 = .ok (.aload_n 0, 1) := by decide +kernel
theorem dX10_addBox_145 : decode cX10_addBox 145 = .ok (.getfield 34, 3) := by decide +kernel
theorem dX10_addBox_148 : decode cX10_addBox 148 = .ok (.iload 5, 2) := by decide +kernel
theorem dX10_addBox_150 : decode cX10_addBox 150 = .ok (.iaload, 1) := by decide +kernel
theorem dX10_addBox_151 : decode cX10_addBox 151 = .ok (.if_icmp .ge 31, 3) := by decide +kernel
theorem dX10_addBox_154 : decode cX10_addBox 154 = .ok (.aload_n 0, 1) := by decide +kernel
theorem dX10_addBox_155 : decode cX10_addBox 155 = .ok (.getfield 47, 3) := by decide +kernel
theorem dX10_addBox_158 : decode cX10_addBox 158 = .ok (.iload 5, 2) := by decide +kernel
theorem dX10_addBox_160 : decode cX10_addBox 160 = .ok (.bipush 8, 2) := by decide +kernel
theorem dX10_addBox_162 : decode cX10_addBox 162 = .ok (.imul, 1) := by decide +kernel
theorem dX10_addBox_163 : decode cX10_addBox 163 = .ok (.iload 6, 2) := by decide +kernel
theorem dX10_addBox_165 : decode cX10_addBox 165 = .ok (.iadd, 1) := by decide +kernel
theorem dX10_addBox_166 : decode cX10_addBox 166 = .ok (.aload_n 2, 1) := by decide +kernel
theorem dX10_addBox_167 : decode cX10_addBox 167 = .ok (.iload_n 3, 1) := by decide +kernel
theorem dX10_addBox_168 : decode cX10_addBox 168 = .ok (.iload 6, 2) := by decide +kernel
theorem dX10_addBox_170 : decode cX10_addBox 170 = .ok (.iadd, 1) := by decide +kernel
theorem dX10_addBox_171 : decode cX10_addBox 171 = .ok (.invokevirtual 61, 3) := by decide +kernel
theorem dX10_addBox_174 : decode cX10_addBox 174 = .ok (.i2b, 1) := by decide +kernel
theorem dX10_addBox_175 : decode cX10_addBox 175 = .ok (.bastore, 1) := by decide +kernel
theorem dX10_addBox_176 : decode cX10_addBox 176 = .ok (.iinc 6 1, 3) := by decide +kernel
theorem dX10_addBox_179 : decode cX10_addBox 179 = .ok (.goto (-37), 3) := by decide +kernel
theorem dX10_addBox_182 : decode cX10_addBox 182 = .ok (.return_, 1) := by decide +kernel
theorem dX10_find_0 : decode cX10_find 0 = .ok (.iconst 0, 1) := by decide +kernel
theorem dX10_find_1 : decode cX10_find 1 = .ok (.istore 4, 2) := by decide +kernel
theorem dX10_find_3 : decode cX10_find 3 = .ok (.iload 4, 2) := by decide +kernel
theorem dX10_find_5 : decode cX10_find 5 = .ok (.aload_n 0, 1) := by decide +kernel
theorem dX10_find_6 : decode cX10_find 6 = .ok (.getfield 9, 3) := by decide +kernel
theorem dX10_find_9 : decode cX10_find 9 = .ok (.if_icmp .ge 36, 3) := by decide +kernel
theorem dX10_find_12 : decode cX10_find 12 = .ok (.aload_n 0, 1) := by decide +kernel
theorem dX10_find_13 : decode cX10_find 13 = .ok (.getfield 34, 3) := by decide +kernel
theorem dX10_find_16 : decode cX10_find 16 = .ok (.iload 4, 2) := by decide +kernel
theorem dX10_find_18 : decode cX10_find 18 = .ok (.iaload, 1) := by decide +kernel
theorem dX10_find_19 : decode cX10_find 19 = .ok (.iload_n 3, 1) := by decide +kernel
theorem dX10_find_20 : decode cX10_find 20 = .ok (.iload_n 2, 1) := by decide +kernel
theorem dX10_find_21 : decode cX10_find 21 = .ok (.isub, 1) := by decide +kernel
theorem dX10_find_22 : decode cX10_find 22 = .ok (.if_icmp .ne 17, 3) := by decide +kernel
theorem dX10_find_25 : decode cX10_find 25 = .ok (.aload_n 0, 1) := by decide +kernel
theorem dX10_find_26 : decode cX10_find 26 = .ok (.iload 4, 2) := by decide +kernel
theorem dX10_find_28 : decode cX10_find 28 = .ok (.aload_n 1, 1) := by decide +kernel
theorem dX10_find_29 : decode cX10_find 29 = .ok (.iload_n 2, 1) := by decide +kernel
theorem dX10_find_30 : decode cX10_find 30 = .ok (.invokevirtual 67, 3) := by decide +kernel
theorem dX10_find_33 : decode cX10_find 33 = .ok (.ifCond .eq 6, 3) := by decide +kernel
theorem dX10_find_36 : decode cX10_find 36 = .ok (.iload 4, 2) := by decide +kernel
theorem dX10_find_38 : decode cX10_find 38 = .ok (.ireturn, 1) := by decide +kernel
theorem dX10_find_39 : decode cX10_find 39 = .ok (.iinc 4 1, 3) := by decide +kernel
theorem dX10_find_42 : decode cX10_find 42 = .ok (.goto (-39), 3) := by decide +kernel
theorem dX10_find_45 : decode cX10_find 45 = .ok (.iconst (-1), 1) := by decide +kernel
theorem dX10_find_46 : decode cX10_find 46 = .ok (.ireturn, 1) := by decide +kernel
theorem dX10_isNamed_0 : decode cX10_isNamed 0 = .ok (.iconst 0, 1) := by decide +kernel
theorem dX10_isNamed_1 : decode cX10_isNamed 1 = .ok (.istore 4, 2) := by decide +kernel
theorem dX10_isNamed_3 : decode cX10_isNamed 3 = .ok (.iload 4, 2) := by decide +kernel
theorem dX10_isNamed_5 : decode cX10_isNamed 5 = .ok (.aload_n 0, 1) := by decide +kernel
theorem dX10_isNamed_6 : decode cX10_isNamed 6 = .ok (.getfield 34, 3) := by decide +kernel
theorem dX10_isNamed_9 : decode cX10_isNamed 9 = .ok (.iload_n 1, 1) := by decide +kernel
theorem dX10_isNamed_10 : decode cX10_isNamed 10 = .ok (.iaload, 1) := by decide +kernel
theorem dX10_isNamed_11 : decode cX10_isNamed 11 = .ok (.if_icmp .ge 29, 3) := by decide +kernel
theorem dX10_isNamed_14 : decode cX10_isNamed 14 = .ok (.aload_n 0, 1) := by decide +kernel
theorem dX10_isNamed_15 : decode cX10_isNamed 15 = .ok (.iload_n 1, 1) := by decide +kernel
theorem dX10_isNamed_16 : decode cX10_isNamed 16 = .ok (.iload 4, 2) := by decide +kernel
theorem dX10_isNamed_18 : decode cX10_isNamed 18 = .ok (.invokevirtual 71, 3) := by decide +kernel
theorem dX10_isNamed_21 : decode cX10_isNamed 21 = .ok (.aload_n 2, 1) := by decide +kernel
theorem dX10_isNamed_22 : decode cX10_isNamed 22 = .ok (.iload_n 3, 1) := by decide +kernel
theorem dX10_isNamed_23 : decode cX10_isNamed 23 = .ok (.iload 4, 2) := by decide +kernel
theorem dX10_isNamed_25 : decode cX10_isNamed 25 = .ok (.iadd, 1) := by decide +kernel
theorem dX10_isNamed_26 : decode cX10_isNamed 26 = .ok (.invokevirtual 61, 3) := by decide +kernel
theorem dX10_isNamed_29 : decode cX10_isNamed 29 = .ok (.if_icmp .eq 5, 3) := by decide +kernel
theorem dX10_isNamed_32 : decode cX10_isNamed 32 = .ok (.iconst 0, 1) := by decide +kernel
theorem dX10_isNamed_33 : decode cX10_isNamed 33 = .ok (.ireturn, 1) := by decide +kernel
theorem dX10_isNamed_34 : decode cX10_isNamed 34 = .ok (.iinc 4 1, 3) := by decide +kernel
theorem dX10_isNamed_37 : decode cX10_isNamed 37 = .ok (.goto (-34), 3) := by decide +kernel
theorem dX10_isNamed_40 : decode cX10_isNamed 40 = .ok (.iconst 1, 1) := by decide +kernel
theorem dX10_isNamed_41 : decode cX10_isNamed 41 = .ok (.ireturn, 1) := by decide +kernel
theorem dX11_init_0 : decode cX11_init 0 = .ok (.aload_n 0, 1) := by decide +kernel
theorem dX11_init_1 : decode cX11_init 1 = .ok (.invokespecial 1, 3) := by decide +kernel
theorem dX11_init_4 : decode cX11_init 4 = .ok (.aload_n 0, 1) := by decide +kernel
theorem dX11_init_5 : decode cX11_init 5 = .ok (.new 7, 3) := by decide +kernel
theorem dX11_init_8 : decode cX11_init 8 = .ok (.dup, 1) := by decide +kernel
theorem dX11_init_9 : decode cX11_init 9 = .ok (.invokespecial 9, 3) := by decide +kernel
theorem dX11_init_12 : decode cX11_init 12 = .ok (.putfield 10, 3) := by decide +kernel
theorem dX11_init_15 : decode cX11_init 15 = .ok (.aload_n 0, 1) := by decide +kernel
theorem dX11_init_16 : decode cX11_init 16 = .ok (.aload_n 0, 1) := by decide +kernel
theorem dX11_init_17 : decode cX11_init 17 = .ok (.getfield 10, 3) := by decide +kernel
theorem dX11_init_20 : decode cX11_init 20 = .ok (.getfield 16, 3) := by decide +kernel
theorem dX11_init_23 : decode cX11_init 23 = .ok (.putfield 20, 3) := by decide +kernel
theorem dX11_init_26 : decode cX11_init 26 = .ok (.aload_n 0, 1) := by decide +kernel
theorem dX11_init_27 : decode cX11_init 27 = .ok (.new 21, 3) := by decide +kernel
theorem dX11_init_30 : decode cX11_init 30 = .ok (.dup, 1) := by decide +kernel
theorem dX11_init_31 : decode cX11_init 31 = .ok (.invokespecial 23, 3) := by decide +kernel
theorem dX11_init_34 : decode cX11_init 34 = .ok (.putfield 24, 3) := by decide +kernel
theorem dX11_init_37 : decode cX11_init 37 = .ok (.aload_n 0, 1) := by decide +kernel
theorem dX11_init_38 : decode cX11_init 38 = .ok (.new 28, 3) := by decide +kernel
theorem dX11_init_41 : decode cX11_init 41 = .ok (.dup, 1) := by decide +kernel
theorem dX11_init_42 : decode cX11_init 42 = .ok (.invokespecial 30, 3) := by decide +kernel
theorem dX11_init_45 : decode cX11_init 45 = .ok (.putfield 31, 3) := by decide +kernel
theorem dX11_init_48 : decode cX11_init 48 = .ok (.aload_n 0, 1) := by decide +kernel
theorem dX11_init_49 : decode cX11_init 49 = .ok (.new 35, 3) := by decide +kernel
theorem dX11_init_52 : decode cX11_init 52 = .ok (.dup, 1) := by decide +kernel
theorem dX11_init_53 : decode cX11_init 53 = .ok (.invokespecial 37, 3) := by decide +kernel
theorem dX11_init_56 : decode cX11_init 56 = .ok (.putfield 38, 3) := by decide +kernel
theorem dX11_init_59 : decode cX11_init 59 = .ok (.aload_n 0, 1) := by decide +kernel
theorem dX11_init_60 : decode cX11_init 60 = .ok (.bipush 40, 2) := by decide +kernel
theorem dX11_init_62 : decode cX11_init 62 = .ok (.newarray .int, 2) := by decide +kernel
theorem dX11_init_64 : decode cX11_init 64 = .ok (.putfield 42, 3) := by decide +kernel
theorem dX11_init_67 : decode cX11_init 67 = .ok (.aload_n 0, 1) := by decide +kernel
theorem dX11_init_68 : decode cX11_init 68 = .ok (.new 46, 3) := by decide +kernel
theorem dX11_init_71 : decode cX11_init 71 = .ok (.dup, 1) := by decide +kernel
theorem dX11_init_72 : decode cX11_init 72 = .ok (.invokespecial 48, 3) := by decide +kernel
theorem dX11_init_75 : decode cX11_init 75 = .ok (.putfield 49, 3) := by decide +kernel
theorem dX11_init_78 : decode cX11_init 78 = .ok (.aload_n 0, 1) := by decide +kernel
theorem dX11_init_79 : decode cX11_init 79 = .ok (.sipush 600, 3) := by decide +kernel
theorem dX11_init_82 : decode cX11_init 82 = .ok (.putfield 53, 3) := by decide +kernel
theorem dX11_init_85 : decode cX11_init 85 = .ok (.aload_n 0, 1) := by decide +kernel
theorem dX11_init_86 : decode cX11_init 86 = .ok (.sipush 400, 3) := by decide +kernel
theorem dX11_init_89 : decode cX11_init 89 = .ok (.putfield 57, 3) := by decide +kernel
theorem dX11_init_92 : decode cX11_init 92 = .ok (.return_, 1) := by decide +kernel
theorem dX11_sheet_0 : decode cX11_sheet 0 = .ok (.iconst 1, 1) := by decide +kernel
theorem dX11_sheet_1 : decode cX11_sheet 1 = .ok (.sipush 3000, 3) := by decide +kernel
theorem dX11_sheet_4 : decode cX11_sheet 4 = .ok (.iload_n 1, 1) := by decide +kernel
theorem dX11_sheet_5 : decode cX11_sheet 5 = .ok (.invokestatic 60, 3) := by decide +kernel
theorem dX11_sheet_8 : decode cX11_sheet 8 = .ok (.ifCond .eq 14, 3) := by decide +kernel
theorem dX11_sheet_11 : decode cX11_sheet 11 = .ok (.iconst 1, 1) := by decide +kernel
theorem dX11_sheet_12 : decode cX11_sheet 12 = .ok (.sipush 3000, 3) := by decide +kernel
theorem dX11_sheet_15 : decode cX11_sheet 15 = .ok (.iload_n 2, 1) := by decide +kernel
theorem dX11_sheet_16 : decode cX11_sheet 16 = .ok (.invokestatic 60, 3) := by decide +kernel
theorem dX11_sheet_19 : decode cX11_sheet 19 = .ok (.ifCond .ne 5, 3) := by decide +kernel
theorem dX11_sheet_22 : decode cX11_sheet 22 = .ok (.iconst 0, 1) := by decide +kernel
theorem dX11_sheet_23 : decode cX11_sheet 23 = .ok (.ireturn, 1) := by decide +kernel
theorem dX11_sheet_24 : decode cX11_sheet 24 = .ok (.aload_n 0, 1) := by decide +kernel
theorem dX11_sheet_25 : decode cX11_sheet 25 = .ok (.iload_n 1, 1) := by decide +kernel
theorem dX11_sheet_26 : decode cX11_sheet 26 = .ok (.putfield 53, 3) := by decide +kernel
theorem dX11_sheet_29 : decode cX11_sheet 29 = .ok (.aload_n 0, 1) := by decide +kernel
theorem dX11_sheet_30 : decode cX11_sheet 30 = .ok (.iload_n 2, 1) := by decide +kernel
theorem dX11_sheet_31 : decode cX11_sheet 31 = .ok (.putfield 57, 3) := by decide +kernel
theorem dX11_sheet_34 : decode cX11_sheet 34 = .ok (.iconst 1, 1) := by decide +kernel
theorem dX11_sheet_35 : decode cX11_sheet 35 = .ok (.ireturn, 1) := by decide +kernel
theorem dX11_price_0 : decode cX11_price 0 = .ok (.iconst 0, 1) := by decide +kernel
theorem dX11_price_1 : decode cX11_price 1 = .ok (.sipush 1000, 3) := by decide +kernel
theorem dX11_price_4 : decode cX11_price 4 = .ok (.iload_n 1, 1) := by decide +kernel
theorem dX11_price_5 : decode cX11_price 5 = .ok (.invokestatic 60, 3) := by decide +kernel
theorem dX11_price_8 : decode cX11_price 8 = .ok (.ifCond .ne 5, 3) := by decide +kernel
theorem dX11_price_11 : decode cX11_price 11 = .ok (.iconst 0, 1) := by decide +kernel
theorem dX11_price_12 : decode cX11_price 12 = .ok (.ireturn, 1) := by decide +kernel
theorem dX11_price_13 : decode cX11_price 13 = .ok (.aload_n 0, 1) := by decide +kernel
theorem dX11_price_14 : decode cX11_price 14 = .ok (.getfield 38, 3) := by decide +kernel
theorem dX11_price_17 : decode cX11_price 17 = .ok (.iload_n 1, 1) := by decide +kernel
theorem dX11_price_18 : decode cX11_price 18 = .ok (.putfield 64, 3) := by decide +kernel
theorem dX11_price_21 : decode cX11_price 21 = .ok (.iconst 1, 1) := by decide +kernel
theorem dX11_price_22 : decode cX11_price 22 = .ok (.ireturn, 1) := by decide +kernel
theorem dX11_feed_0 : decode cX11_feed 0 = .ok (.aload_n 0, 1) := by decide +kernel
theorem dX11_feed_1 : decode cX11_feed 1 = .ok (.getfield 20, 3) := by decide +kernel
theorem dX11_feed_4 : decode cX11_feed 4 = .ok (.getfield 67, 3) := by decide +kernel
theorem dX11_feed_7 : decode cX11_feed 7 = .ok (.sipush 980, 3) := by decide +kernel
theorem dX11_feed_10 : decode cX11_feed 10 = .ok (.if_icmp .le 5, 3) := by decide +kernel
theorem dX11_feed_13 : decode cX11_feed 13 = .ok (.iconst (-1), 1) := by decide +kernel
theorem dX11_feed_14 : decode cX11_feed 14 = .ok (.ireturn, 1) := by decide +kernel
theorem dX11_feed_15 : decode cX11_feed 15 = .ok (.aload_n 0, 1) := by decide +kernel
theorem dX11_feed_16 : decode cX11_feed 16 = .ok (.getfield 20, 3) := by decide +kernel
theorem dX11_feed_19 : decode cX11_feed 19 = .ok (.iload_n 1, 1) := by decide +kernel
theorem dX11_feed_20 : decode cX11_feed 20 = .ok (.invokevirtual 72, 3) := by decide +kernel
theorem dX11_feed_23 : decode cX11_feed 23 = .ok (.aload_n 0, 1) := by decide +kernel
theorem dX11_feed_24 : decode cX11_feed 24 = .ok (.getfield 20, 3) := by decide +kernel
theorem dX11_feed_27 : decode cX11_feed 27 = .ok (.iload_n 2, 1) := by decide +kernel
theorem dX11_feed_28 : decode cX11_feed 28 = .ok (.invokevirtual 72, 3) := by decide +kernel
theorem dX11_feed_31 : decode cX11_feed 31 = .ok (.aload_n 0, 1) := by decide +kernel
theorem dX11_feed_32 : decode cX11_feed 32 = .ok (.getfield 20, 3) := by decide +kernel
theorem dX11_feed_35 : decode cX11_feed 35 = .ok (.iload_n 3, 1) := by decide +kernel
theorem dX11_feed_36 : decode cX11_feed 36 = .ok (.invokevirtual 72, 3) := by decide +kernel
theorem dX11_feed_39 : decode cX11_feed 39 = .ok (.aload_n 0, 1) := by decide +kernel
theorem dX11_feed_40 : decode cX11_feed 40 = .ok (.getfield 20, 3) := by decide +kernel
theorem dX11_feed_43 : decode cX11_feed 43 = .ok (.iload 4, 2) := by decide +kernel
theorem dX11_feed_45 : decode cX11_feed 45 = .ok (.invokevirtual 72, 3) := by decide +kernel
theorem dX11_feed_48 : decode cX11_feed 48 = .ok (.aload_n 0, 1) := by decide +kernel
theorem dX11_feed_49 : decode cX11_feed 49 = .ok (.getfield 20, 3) := by decide +kernel
theorem dX11_feed_52 : decode cX11_feed 52 = .ok (.iload 5, 2) := by decide +kernel
theorem dX11_feed_54 : decode cX11_feed 54 = .ok (.invokevirtual 72, 3) := by decide +kernel
theorem dX11_feed_57 : decode cX11_feed 57 = .ok (.aload_n 0, 1) := by decide +kernel
theorem dX11_feed_58 : decode cX11_feed 58 = .ok (.getfield 20, 3) := by decide +kernel
theorem dX11_feed_61 : decode cX11_feed 61 = .ok (.getfield 67, 3) := by decide +kernel
theorem dX11_feed_64 : decode cX11_feed 64 = .ok (.ireturn, 1) := by decide +kernel
theorem dX11_end_0 : decode cX11_end 0 = .ok (.iconst 0, 1) := by decide +kernel
theorem dX11_end_1 : decode cX11_end 1 = .ok (.aload_n 0, 1) := by decide +kernel
theorem dX11_end_2 : decode cX11_end 2 = .ok (.getfield 20, 3) := by decide +kernel
theorem dX11_end_5 : decode cX11_end 5 = .ok (.getfield 67, 3) := by decide +kernel
theorem dX11_end_8 : decode cX11_end 8 = .ok (.iload_n 1, 1) := by decide +kernel
theorem dX11_end_9 : decode cX11_end 9 = .ok (.invokestatic 60, 3) := by decide +kernel
theorem dX11_end_12 : decode cX11_end 12 = .ok (.ifCond .ne 5, 3) := by decide +kernel
theorem dX11_end_15 : decode cX11_end 15 = .ok (.iconst (-1), 1) := by decide +kernel
theorem dX11_end_16 : decode cX11_end 16 = .ok (.ireturn, 1) := by decide +kernel
theorem dX11_end_17 : decode cX11_end 17 = .ok (.aload_n 0, 1) := by decide +kernel
theorem dX11_end_18 : decode cX11_end 18 = .ok (.getfield 20, 3) := by decide +kernel
theorem dX11_end_21 : decode cX11_end 21 = .ok (.iload_n 1, 1) := by decide +kernel
theorem dX11_end_22 : decode cX11_end 22 = .ok (.putfield 67, 3) := by decide +kernel
theorem dX11_end_25 : decode cX11_end 25 = .ok (.iload_n 1, 1) := by decide +kernel
theorem dX11_end_26 : decode cX11_end 26 = .ok (.ireturn, 1) := by decide +kernel
theorem dX11_tree_0 : decode cX11_tree 0 = .ok (.aload_n 0, 1) := by decide +kernel
theorem dX11_tree_1 : decode cX11_tree 1 = .ok (.getfield 10, 3) := by decide +kernel
theorem dX11_tree_4 : decode cX11_tree 4 = .ok (.invokevirtual 76, 3) := by decide +kernel
theorem dX11_tree_7 : decode cX11_tree 7 = .ok (.istore_n 1, 1) := by decide +kernel
theorem dX11_tree_8 : decode cX11_tree 8 = .ok (.aload_n 0, 1) := by decide +kernel
theorem dX11_tree_9 : decode cX11_tree 9 = .ok (.getfield 20, 3) := by decide +kernel
theorem dX11_tree_12 : decode cX11_tree 12 = .ok (.iconst 0, 1) := by decide +kernel
theorem dX11_tree_13 : decode cX11_tree 13 = .ok (.putfield 67, 3) := by decide +kernel
theorem dX11_tree_16 : decode cX11_tree 16 = .ok (.iload_n 1, 1) := by decide +kernel
theorem dX11_tree_17 : decode cX11_tree 17 = .ok (.ifCond .eq 8, 3) := by decide +kernel
theorem dX11_tree_20 : decode cX11_tree 20 = .ok (.iload_n 1, 1) := by decide +kernel
theorem dX11_tree_21 : decode cX11_tree 21 = .ok (.ineg, 1) := by decide +kernel
theorem dX11_tree_22 : decode cX11_tree 22 = .ok (.iconst 2, 1) := by decide +kernel
theorem dX11_tree_23 : decode cX11_tree 23 = .ok (.isub, 1) := by decide +kernel
theorem dX11_tree_24 : decode cX11_tree 24 = .ok (.ireturn, 1) := by decide +kernel
theorem dX11_tree_25 : decode cX11_tree 25 = .ok (.aload_n 0, 1) := by decide +kernel
theorem dX11_tree_26 : decode cX11_tree 26 = .ok (.getfield 49, 3) := by decide +kernel
theorem dX11_tree_29 : decode cX11_tree 29 = .ok (.astore_n 2, 1) := by decide +kernel
theorem dX11_tree_30 : decode cX11_tree 30 = .ok (.aload_n 0, 1) := by decide +kernel
theorem dX11_tree_31 : decode cX11_tree 31 = .ok (.aload_n 0, 1) := by decide +kernel
theorem dX11_tree_32 : decode cX11_tree 32 = .ok (.getfield 10, 3) := by decide +kernel
theorem dX11_tree_35 : decode cX11_tree 35 = .ok (.getfield 80, 3) := by decide +kernel
theorem dX11_tree_38 : decode cX11_tree 38 = .ok (.putfield 49, 3) := by decide +kernel
theorem dX11_tree_41 : decode cX11_tree 41 = .ok (.aload_n 0, 1) := by decide +kernel
theorem dX11_tree_42 : decode cX11_tree 42 = .ok (.getfield 10, 3) := by decide +kernel
theorem dX11_tree_45 : decode cX11_tree 45 = .ok (.aload_n 2, 1) := by decide +kernel
theorem dX11_tree_46 : decode cX11_tree 46 = .ok (.putfield 80, 3) := by decide +kernel
theorem dX11_tree_49 : decode cX11_tree 49 = .ok (.aload_n 0, 1) := by decide +kernel
theorem dX11_tree_50 : decode cX11_tree 50 = .ok (.getfield 24, 3) := by decide +kernel
theorem dX11_tree_53 : decode cX11_tree 53 = .ok (.iconst 0, 1) := by decide +kernel
theorem dX11_tree_54 : decode cX11_tree 54 = .ok (.putfield 83, 3) := by decide +kernel
theorem dX11_tree_57 : decode cX11_tree 57 = .ok (.aload_n 0, 1) := by decide +kernel
theorem dX11_tree_58 : decode cX11_tree 58 = .ok (.getfield 31, 3) := by decide +kernel
theorem dX11_tree_61 : decode cX11_tree 61 = .ok (.iconst 0, 1) := by decide +kernel
theorem dX11_tree_62 : decode cX11_tree 62 = .ok (.putfield 86, 3) := by decide +kernel
theorem dX11_tree_65 : decode cX11_tree 65 = .ok (.aload_n 0, 1) := by decide +kernel
theorem dX11_tree_66 : decode cX11_tree 66 = .ok (.getfield 49, 3) := by decide +kernel
theorem dX11_tree_69 : decode cX11_tree 69 = .ok (.getfield 89, 3) := by decide +kernel
theorem dX11_tree_72 : decode cX11_tree 72 = .ok (.ireturn, 1) := by decide +kernel
theorem dX11_place_0 : decode cX11_place 0 = .ok (.aload_n 0, 1) := by decide +kernel
theorem dX11_place_1 : decode cX11_place 1 = .ok (.getfield 10, 3) := by decide +kernel
theorem dX11_place_4 : decode cX11_place 4 = .ok (.getfield 92, 3) := by decide +kernel
theorem dX11_place_7 : decode cX11_place 7 = .ok (.ireturn, 1) := by decide +kernel
theorem dX11_size_0 : decode cX11_size 0 = .ok (.aload_n 0, 1) := by decide +kernel
theorem dX11_size_1 : decode cX11_size 1 = .ok (.getfield 49, 3) := by decide +kernel
theorem dX11_size_4 : decode cX11_size 4 = .ok (.iload_n 1, 1) := by decide +kernel
theorem dX11_size_5 : decode cX11_size 5 = .ok (.invokevirtual 95, 3) := by decide +kernel
theorem dX11_size_8 : decode cX11_size 8 = .ok (.ifCond .eq 20, 3) := by decide +kernel
theorem dX11_size_11 : decode cX11_size 11 = .ok (.iload_n 2, 1) := by decide +kernel
theorem dX11_size_12 : decode cX11_size 12 = .ok (.invokestatic 99, 3) := by decide +kernel
theorem dX11_size_15 : decode cX11_size 15 = .ok (.ifCond .eq 13, 3) := by decide +kernel
theorem dX11_size_18 : decode cX11_size 18 = .ok (.iconst 0, 1) := by decide +kernel
theorem dX11_size_19 : decode cX11_size 19 = .ok (.ldc 102, 2) := by decide +kernel
theorem dX11_size_21 : decode cX11_size 21 = .ok (.iload_n 3, 1) := by decide +kernel
theorem dX11_size_22 : decode cX11_size 22 = .ok (.invokestatic 60, 3) := by decide +kernel
theorem dX11_size_25 : decode cX11_size 25 = .ok (.ifCond .ne 5, 3) := by decide +kernel
theorem dX11_size_28 : decode cX11_size 28 = .ok (.iconst (-1), 1) := by decide +kernel
theorem dX11_size_29 : decode cX11_size 29 = .ok (.ireturn, 1) := by decide +kernel
theorem dX11_size_30 : decode cX11_size 30 = .ok (.aload_n 0, 1) := by decide +kernel
theorem dX11_size_31 : decode cX11_size 31 = .ok (.getfield 24, 3) := by decide +kernel
theorem dX11_size_34 : decode cX11_size 34 = .ok (.iload_n 1, 1) := by decide +kernel
theorem dX11_size_35 : decode cX11_size 35 = .ok (.iload_n 2, 1) := by decide +kernel
theorem dX11_size_36 : decode cX11_size 36 = .ok (.iload_n 3, 1) := by decide +kernel
theorem dX11_size_37 : decode cX11_size 37 = .ok (.invokevirtual 103, 3) := by decide +kernel
theorem dX11_size_40 : decode cX11_size 40 = .ok (.ireturn, 1) := by decide +kernel
theorem dX11_rest_0 : decode cX11_rest 0 = .ok (.aload_n 0, 1) := by decide +kernel
theorem dX11_rest_1 : decode cX11_rest 1 = .ok (.getfield 49, 3) := by decide +kernel
theorem dX11_rest_4 : decode cX11_rest 4 = .ok (.iload_n 1, 1) := by decide +kernel
theorem dX11_rest_5 : decode cX11_rest 5 = .ok (.invokevirtual 106, 3) := by decide +kernel
theorem dX11_rest_8 : decode cX11_rest 8 = .ok (.ifCond .eq 14, 3) := by decide +kernel
theorem dX11_rest_11 : decode cX11_rest 11 = .ok (.iconst 0, 1) := by decide +kernel
theorem dX11_rest_12 : decode cX11_rest 12 = .ok (.sipush 999, 3) := by decide +kernel
theorem dX11_rest_15 : decode cX11_rest 15 = .ok (.iload_n 2, 1) := by decide +kernel
theorem dX11_rest_16 : decode cX11_rest 16 = .ok (.invokestatic 60, 3) := by decide +kernel
theorem dX11_rest_19 : decode cX11_rest 19 = .ok (.ifCond .ne 5, 3) := by decide +kernel
theorem dX11_rest_22 : decode cX11_rest 22 = .ok (.iconst 0, 1) := by decide +kernel
theorem dX11_rest_23 : decode cX11_rest 23 = .ok (.ireturn, 1) := by decide +kernel
theorem dX11_rest_24 : decode cX11_rest 24 = .ok (.aload_n 0, 1) := by decide +kernel
theorem dX11_rest_25 : decode cX11_rest 25 = .ok (.getfield 49, 3) := by decide +kernel
theorem dX11_rest_28 : decode cX11_rest 28 = .ok (.getfield 109, 3) := by decide +kernel
theorem dX11_rest_31 : decode cX11_rest 31 = .ok (.iload_n 1, 1) := by decide +kernel
theorem dX11_rest_32 : decode cX11_rest 32 = .ok (.iload_n 2, 1) := by decide +kernel
theorem dX11_rest_33 : decode cX11_rest 33 = .ok (.iastore, 1) := by decide +kernel
theorem dX11_rest_34 : decode cX11_rest 34 = .ok (.aload_n 0, 1) := by decide +kernel
theorem dX11_rest_35 : decode cX11_rest 35 = .ok (.getfield 49, 3) := by decide +kernel
theorem dX11_rest_38 : decode cX11_rest 38 = .ok (.getfield 112, 3) := by decide +kernel
theorem dX11_rest_41 : decode cX11_rest 41 = .ok (.iload_n 1, 1) := by decide +kernel
theorem dX11_rest_42 : decode cX11_rest 42 = .ok (.iload_n 3, 1) := by decide +kernel
theorem dX11_rest_43 : decode cX11_rest 43 = .ok (.bastore, 1) := by decide +kernel
theorem dX11_rest_44 : decode cX11_rest 44 = .ok (.iconst 1, 1) := by decide +kernel
theorem dX11_rest_45 : decode cX11_rest 45 = .ok (.ireturn, 1) := by decide +kernel
theorem dX11_draw_0 : decode cX11_draw 0 = .ok (.aload_n 0, 1) := by decide +kernel
theorem dX11_draw_1 : decode cX11_draw 1 = .ok (.getfield 49, 3) := by decide +kernel
theorem dX11_draw_4 : decode cX11_draw 4 = .ok (.getfield 89, 3) := by decide +kernel
theorem dX11_draw_7 : decode cX11_draw 7 = .ok (.ifCond .eq 10, 3) := by decide +kernel
theorem dX11_draw_10 : decode cX11_draw 10 = .ok (.iload_n 1, 1) := by decide +kernel
theorem dX11_draw_11 : decode cX11_draw 11 = .ok (.invokestatic 99, 3) := by decide +kernel
theorem dX11_draw_14 : decode cX11_draw 14 = .ok (.ifCond .ne 5, 3) := by decide +kernel
theorem dX11_draw_17 : decode cX11_draw 17 = .ok (.iconst (-1), 1) := by decide +kernel
theorem dX11_draw_18 : decode cX11_draw 18 = .ok (.ireturn, 1) := by decide +kernel
theorem dX11_draw_19 : decode cX11_draw 19 = .ok (.aload_n 0, 1) := by decide +kernel
theorem dX11_draw_20 : decode cX11_draw 20 = .ok (.getfield 24, 3) := by decide +kernel
theorem dX11_draw_23 : decode cX11_draw 23 = .ok (.aload_n 0, 1) := by decide +kernel
theorem dX11_draw_24 : decode cX11_draw 24 = .ok (.getfield 49, 3) := by decide +kernel
theorem dX11_draw_27 : decode cX11_draw 27 = .ok (.iload_n 1, 1) := by decide +kernel
theorem dX11_draw_28 : decode cX11_draw 28 = .ok (.aload_n 0, 1) := by decide +kernel
theorem dX11_draw_29 : decode cX11_draw 29 = .ok (.getfield 42, 3) := by decide +kernel
theorem dX11_draw_32 : decode cX11_draw 32 = .ok (.invokevirtual 116, 3) := by decide +kernel
theorem dX11_draw_35 : decode cX11_draw 35 = .ok (.aload_n 0, 1) := by decide +kernel
theorem dX11_draw_36 : decode cX11_draw 36 = .ok (.getfield 31, 3) := by decide +kernel
theorem dX11_draw_39 : decode cX11_draw 39 = .ok (.iload_n 1, 1) := by decide +kernel
theorem dX11_draw_40 : decode cX11_draw 40 = .ok (.aload_n 0, 1) := by decide +kernel
theorem dX11_draw_41 : decode cX11_draw 41 = .ok (.getfield 49, 3) := by decide +kernel
theorem dX11_draw_44 : decode cX11_draw 44 = .ok (.getfield 89, 3) := by decide +kernel
theorem dX11_draw_47 : decode cX11_draw 47 = .ok (.aload_n 0, 1) := by decide +kernel
theorem dX11_draw_48 : decode cX11_draw 48 = .ok (.getfield 42, 3) := by decide +kernel
theorem dX11_draw_51 : decode cX11_draw 51 = .ok (.invokevirtual 120, 3) := by decide +kernel
theorem dX11_draw_54 : decode cX11_draw 54 = .ok (.aload_n 0, 1) := by decide +kernel
theorem dX11_draw_55 : decode cX11_draw 55 = .ok (.getfield 31, 3) := by decide +kernel
theorem dX11_draw_58 : decode cX11_draw 58 = .ok (.iconst 0, 1) := by decide +kernel
theorem dX11_draw_59 : decode cX11_draw 59 = .ok (.iconst 0, 1) := by decide +kernel
theorem dX11_draw_60 : decode cX11_draw 60 = .ok (.iconst 0, 1) := by decide +kernel
theorem dX11_draw_61 : decode cX11_draw 61 = .ok (.aload_n 0, 1) := by decide +kernel
theorem dX11_draw_62 : decode cX11_draw 62 = .ok (.getfield 53, 3) := by decide +kernel
theorem dX11_draw_65 : decode cX11_draw 65 = .ok (.aload_n 0, 1) := by decide +kernel
theorem dX11_draw_66 : decode cX11_draw 66 = .ok (.getfield 57, 3) := by decide +kernel
theorem dX11_draw_69 : decode cX11_draw 69 = .ok (.invokevirtual 124, 3) := by decide +kernel
theorem dX11_draw_72 : decode cX11_draw 72 = .ok (.iconst 0, 1) := by decide +kernel
theorem dX11_draw_73 : decode cX11_draw 73 = .ok (.istore_n 2, 1) := by decide +kernel
theorem dX11_draw_74 : decode cX11_draw 74 = .ok (.iload_n 2, 1) := by decide +kernel
theorem dX11_draw_75 : decode cX11_draw 75 = .ok (.aload_n 0, 1) := by decide +kernel
theorem dX11_draw_76 : decode cX11_draw 76 = .ok (.getfield 49, 3) := by decide +kernel
theorem dX11_draw_79 : decode cX11_draw 79 = .ok (.getfield 89, 3) := by decide +kernel
theorem dX11_draw_82 : decode cX11_draw 82 = .ok (.if_icmp .ge 36, 3) := by decide +kernel
theorem dX11_draw_85 : decode cX11_draw 85 = .ok (.aload_n 0, 1) := by decide +kernel
theorem dX11_draw_86 : decode cX11_draw 86 = .ok (.getfield 49, 3) := by decide +kernel
theorem dX11_draw_89 : decode cX11_draw 89 = .ok (.iload_n 2, 1) := by decide +kernel
theorem dX11_draw_90 : decode cX11_draw 90 = .ok (.invokevirtual 106, 3) := by decide +kernel
theorem dX11_draw_93 : decode cX11_draw 93 = .ok (.ifCond .eq 19, 3) := by decide +kernel
theorem dX11_draw_96 : decode cX11_draw 96 = .ok (.aload_n 0, 1) := by decide +kernel
theorem dX11_draw_97 : decode cX11_draw 97 = .ok (.getfield 38, 3) := by decide +kernel
theorem dX11_draw_100 : decode cX11_draw 100 = .ok (.aload_n 0, 1) := by decide +kernel
theorem dX11_draw_101 : decode cX11_draw 101 = .ok (.getfield 49, 3) := by decide +kernel
theorem dX11_draw_104 : decode cX11_draw 104 = .ok (.iload_n 2, 1) := by decide +kernel
theorem dX11_draw_105 : decode cX11_draw 105 = .ok (.aload_n 0, 1) := by decide +kernel
theorem dX11_draw_106 : decode cX11_draw 106 = .ok (.getfield 31, 3) := by decide +kernel
theorem dX11_draw_109 : decode cX11_draw 109 = .ok (.invokevirtual 128, 3) := by decide +kernel
theorem dX11_draw_112 : decode cX11_draw 112 = .ok (.iinc 2 1, 3) := by decide +kernel
theorem dX11_draw_115 : decode cX11_draw 115 = .ok (.goto (-41), 3) := by decide +kernel
theorem dX11_draw_118 : decode cX11_draw 118 = .ok (.aload_n 0, 1) := by decide +kernel
theorem dX11_draw_119 : decode cX11_draw 119 = .ok (.getfield 31, 3) := by decide +kernel
theorem dX11_draw_122 : decode cX11_draw 122 = .ok (.getfield 86, 3) := by decide +kernel
theorem dX11_draw_125 : decode cX11_draw 125 = .ok (.iconst 1, 1) := by decide +kernel
theorem dX11_draw_126 : decode cX11_draw 126 = .ok (.isub, 1) := by decide +kernel
theorem dX11_draw_127 : decode cX11_draw 127 = .ok (.ireturn, 1) := by decide +kernel
theorem dX11_box_0 : decode cX11_box 0 = .ok (.aload_n 0, 1) := by decide +kernel
theorem dX11_box_1 : decode cX11_box 1 = .ok (.getfield 31, 3) := by decide +kernel
theorem dX11_box_4 : decode cX11_box 4 = .ok (.getfield 86, 3) := by decide +kernel
theorem dX11_box_7 : decode cX11_box 7 = .ok (.ifCond .eq 14, 3) := by decide +kernel
theorem dX11_box_10 : decode cX11_box 10 = .ok (.aload_n 0, 1) := by decide +kernel
theorem dX11_box_11 : decode cX11_box 11 = .ok (.getfield 49, 3) := by decide +kernel
theorem dX11_box_14 : decode cX11_box 14 = .ok (.iload_n 1, 1) := by decide +kernel
theorem dX11_box_15 : decode cX11_box 15 = .ok (.invokevirtual 132, 3) := by decide +kernel
theorem dX11_box_18 : decode cX11_box 18 = .ok (.ifCond .ne 5, 3) := by decide +kernel
theorem dX11_box_21 : decode cX11_box 21 = .ok (.iconst (-1), 1) := by decide +kernel
theorem dX11_box_22 : decode cX11_box 22 = .ok (.ireturn, 1) := by decide +kernel
theorem dX11_box_23 : decode cX11_box 23 = .ok (.aload_n 0, 1) := by decide +kernel
theorem dX11_box_24 : decode cX11_box 24 = .ok (.getfield 31, 3) := by decide +kernel
theorem dX11_box_27 : decode cX11_box 27 = .ok (.iload_n 1, 1) := by decide +kernel
theorem dX11_box_28 : decode cX11_box 28 = .ok (.invokevirtual 135, 3) := by decide +kernel
theorem dX11_box_31 : decode cX11_box 31 = .ok (.istore_n 3, 1) := by decide +kernel
theorem dX11_box_32 : decode cX11_box 32 = .ok (.iload_n 2, 1) := by decide +kernel
theorem dX11_box_33 : decode cX11_box 33 = .ok (.iconst 4, 1) := by decide +kernel
theorem dX11_box_34 : decode cX11_box 34 = .ok (.if_icmp .ne 16, 3) := by decide +kernel
theorem dX11_box_37 : decode cX11_box 37 = .ok (.aload_n 0, 1) := by decide +kernel
theorem dX11_box_38 : decode cX11_box 38 = .ok (.getfield 31, 3) := by decide +kernel
theorem dX11_box_41 : decode cX11_box 41 = .ok (.getfield 141, 3) := by decide +kernel
theorem dX11_box_44 : decode cX11_box 44 = .ok (.getfield 144, 3) := by decide +kernel
theorem dX11_box_47 : decode cX11_box 47 = .ok (.iload_n 3, 1) := by decide +kernel
theorem dX11_box_48 : decode cX11_box 48 = .ok (.iaload, 1) := by decide +kernel
theorem dX11_box_49 : decode cX11_box 49 = .ok (.ireturn, 1) := by decide +kernel
theorem dX11_box_50 : decode cX11_box 50 = .ok (.aload_n 0, 1) := by decide +kernel
theorem dX11_box_51 : decode cX11_box 51 = .ok (.getfield 31, 3) := by decide +kernel
theorem dX11_box_54 : decode cX11_box 54 = .ok (.getfield 147, 3) := by decide +kernel
theorem dX11_box_57 : decode cX11_box 57 = .ok (.iload_n 3, 1) := by decide +kernel
theorem dX11_box_58 : decode cX11_box 58 = .ok (.baload, 1) := by decide +kernel
theorem dX11_box_59 : decode cX11_box 59 = .ok (.ifCond .ne 5, 3) := by decide +kernel
theorem dX11_box_62 : decode cX11_box 62 = .ok (.iconst (-1), 1) := by decide +kernel
theorem dX11_box_63 : decode cX11_box 63 = .ok (.ireturn, 1) := by decide +kernel
theorem dX11_box_64 : decode cX11_box 64 = .ok (.iload_n 2, 1) := by decide +kernel
theorem dX11_box_65 : decode cX11_box 65 = .ok (.bipush 6, 2) := by decide +kernel
theorem dX11_box_67 : decode cX11_box 67 = .ok (.if_icmp .eq 9, 3) := by decide +kernel
theorem dX11_box_70 : decode cX11_box 70 = .ok (.iload_n 2, 1) := by decide +kernel
theorem dX11_box_71 : decode cX11_box 71 = .ok (.bipush 7, 2) := by decide +kernel
theorem dX11_box_73 : decode cX11_box 73 = .ok (.if_icmp .ne 44, 3) := by decide +kernel
theorem dX11_box_76 : decode cX11_box 76 = .ok (.aload_n 0, 1) := by decide +kernel
theorem dX11_box_77 : decode cX11_box 77 = .ok (.getfield 49, 3) := by decide +kernel
theorem dX11_box_80 : decode cX11_box 80 = .ok (.iload_n 1, 1) := by decide +kernel
theorem dX11_box_81 : decode cX11_box 81 = .ok (.invokevirtual 106, 3) := by decide +kernel
theorem dX11_box_84 : decode cX11_box 84 = .ok (.ifCond .ne 5, 3) := by decide +kernel
theorem dX11_box_87 : decode cX11_box 87 = .ok (.iconst (-1), 1) := by decide +kernel
theorem dX11_box_88 : decode cX11_box 88 = .ok (.ireturn, 1) := by decide +kernel
theorem dX11_box_89 : decode cX11_box 89 = .ok (.iload_n 2, 1) := by decide +kernel
theorem dX11_box_90 : decode cX11_box 90 = .ok (.bipush 6, 2) := by decide +kernel
theorem dX11_box_92 : decode cX11_box 92 = .ok (.if_icmp .ne 15, 3) := by decide +kernel
theorem dX11_box_95 : decode cX11_box 95 = .ok (.aload_n 0, 1) := by decide +kernel
theorem dX11_box_96 : decode cX11_box 96 = .ok (.getfield 31, 3) := by decide +kernel
theorem dX11_box_99 : decode cX11_box 99 = .ok (.getfield 150, 3) := by decide +kernel
theorem dX11_box_102 : decode cX11_box 102 = .ok (.iload_n 1, 1) := by decide +kernel
theorem dX11_box_103 : decode cX11_box 103 = .ok (.iaload, 1) := by decide +kernel
theorem dX11_box_104 : decode cX11_box 104 = .ok (.goto 12, 3) := by decide +kernel
theorem dX11_box_107 : decode cX11_box 107 = .ok (.aload_n 0, 1) := by decide +kernel
theorem dX11_box_108 : decode cX11_box 108 = .ok (.getfield 31, 3) := by decide +kernel
theorem dX11_box_111 : decode cX11_box 111 = .ok (.getfield 153, 3) := by decide +kernel
theorem dX11_box_114 : decode cX11_box 114 = .ok (.iload_n 1, 1) := by decide +kernel
theorem dX11_box_115 : decode cX11_box 115 = .ok (.iaload, 1) := by decide +kernel
theorem dX11_box_116 : decode cX11_box 116 = .ok (.ireturn, 1) := by decide +kernel
theorem dX11_box_117 : decode cX11_box 117 = .ok (.aload_n 0, 1) := by decide +kernel
theorem dX11_box_118 : decode cX11_box 118 = .ok (.getfield 31, 3) := by decide +kernel
theorem dX11_box_121 : decode cX11_box 121 = .ok (.getfield 141, 3) := by decide +kernel
theorem dX11_box_124 : decode cX11_box 124 = .ok (.iload_n 3, 1) := by decide +kernel
theorem dX11_box_125 : decode cX11_box 125 = .ok (.iload_n 2, 1) := by decide +kernel
theorem dX11_box_126 : decode cX11_box 126 = .ok (.invokevirtual 156, 3) := by decide +kernel
theorem dX11_box_129 : decode cX11_box 129 = .ok (.ireturn, 1) := by decide +kernel
theorem dX11_restOf_0 : decode cX11_restOf 0 = .ok (.aload_n 0, 1) := by decide +kernel
theorem dX11_restOf_1 : decode cX11_restOf 1 = .ok (.getfield 31, 3) := by decide +kernel
theorem dX11_restOf_4 : decode cX11_restOf 4 = .ok (.getfield 86, 3) := by decide +kernel
theorem dX11_restOf_7 : decode cX11_restOf 7 = .ok (.ifCond .eq 26, 3) := by decide +kernel
theorem dX11_restOf_10 : decode cX11_restOf 10 = .ok (.aload_n 0, 1) := by decide +kernel
theorem dX11_restOf_11 : decode cX11_restOf 11 = .ok (.getfield 49, 3) := by decide +kernel
theorem dX11_restOf_14 : decode cX11_restOf 14 = .ok (.iload_n 1, 1) := by decide +kernel
theorem dX11_restOf_15 : decode cX11_restOf 15 = .ok (.invokevirtual 106, 3) := by decide +kernel
theorem dX11_restOf_18 : decode cX11_restOf 18 = .ok (.ifCond .eq 15, 3) := by decide +kernel
theorem dX11_restOf_21 : decode cX11_restOf 21 = .ok (.aload_n 0, 1) := by decide +kernel
theorem dX11_restOf_22 : decode cX11_restOf 22 = .ok (.getfield 31, 3) := by decide +kernel
theorem dX11_restOf_25 : decode cX11_restOf 25 = .ok (.getfield 160, 3) := by decide +kernel
theorem dX11_restOf_28 : decode cX11_restOf 28 = .ok (.iload_n 1, 1) := by decide +kernel
theorem dX11_restOf_29 : decode cX11_restOf 29 = .ok (.iaload, 1) := by decide +kernel
theorem dX11_restOf_30 : decode cX11_restOf 30 = .ok (.ifCond .ne 5, 3) := by decide +kernel
theorem dX11_restOf_33 : decode cX11_restOf 33 = .ok (.iconst (-1), 1) := by decide +kernel
theorem dX11_restOf_34 : decode cX11_restOf 34 = .ok (.ireturn, 1) := by decide +kernel
theorem dX11_restOf_35 : decode cX11_restOf 35 = .ok (.iload_n 2, 1) := by decide +kernel
theorem dX11_restOf_36 : decode cX11_restOf 36 = .ok (.bipush 6, 2) := by decide +kernel
theorem dX11_restOf_38 : decode cX11_restOf 38 = .ok (.if_icmp .ne 15, 3) := by decide +kernel
theorem dX11_restOf_41 : decode cX11_restOf 41 = .ok (.aload_n 0, 1) := by decide +kernel
theorem dX11_restOf_42 : decode cX11_restOf 42 = .ok (.getfield 31, 3) := by decide +kernel
theorem dX11_restOf_45 : decode cX11_restOf 45 = .ok (.getfield 160, 3) := by decide +kernel
theorem dX11_restOf_48 : decode cX11_restOf 48 = .ok (.iload_n 1, 1) := by decide +kernel
theorem dX11_restOf_49 : decode cX11_restOf 49 = .ok (.iaload, 1) := by decide +kernel
theorem dX11_restOf_50 : decode cX11_restOf 50 = .ok (.goto 15, 3) := by decide +kernel
theorem dX11_restOf_53 : decode cX11_restOf 53 = .ok (.aload_n 0, 1) := by decide +kernel
theorem dX11_restOf_54 : decode cX11_restOf 54 = .ok (.getfield 31, 3) := by decide +kernel
theorem dX11_restOf_57 : decode cX11_restOf 57 = .ok (.getfield 163, 3) := by decide +kernel
theorem dX11_restOf_60 : decode cX11_restOf 60 = .ok (.iload_n 1, 1) := by decide +kernel
theorem dX11_restOf_61 : decode cX11_restOf 61 = .ok (.iload_n 2, 1) := by decide +kernel
theorem dX11_restOf_62 : decode cX11_restOf 62 = .ok (.invokevirtual 156, 3) := by decide +kernel
theorem dX11_restOf_65 : decode cX11_restOf 65 = .ok (.ireturn, 1) := by decide +kernel
theorem dX11_under_0 : decode cX11_under 0 = .ok (.aload_n 0, 1) := by decide +kernel
theorem dX11_under_1 : decode cX11_under 1 = .ok (.getfield 31, 3) := by decide +kernel
theorem dX11_under_4 : decode cX11_under 4 = .ok (.getfield 86, 3) := by decide +kernel
theorem dX11_under_7 : decode cX11_under 7 = .ok (.ifCond .ne 5, 3) := by decide +kernel
theorem dX11_under_10 : decode cX11_under 10 = .ok (.iconst (-1), 1) := by decide +kernel
theorem dX11_under_11 : decode cX11_under 11 = .ok (.ireturn, 1) := by decide +kernel
theorem dX11_under_12 : decode cX11_under 12 = .ok (.iconst (-1), 1) := by decide +kernel
theorem dX11_under_13 : decode cX11_under 13 = .ok (.istore_n 3, 1) := by decide +kernel
theorem dX11_under_14 : decode cX11_under 14 = .ok (.iconst 0, 1) := by decide +kernel
theorem dX11_under_15 : decode cX11_under 15 = .ok (.istore 4, 2) := by decide +kernel
theorem dX11_under_17 : decode cX11_under 17 = .ok (.iload 4, 2) := by decide +kernel
theorem dX11_under_19 : decode cX11_under 19 = .ok (.aload_n 0, 1) := by decide +kernel
theorem dX11_under_20 : decode cX11_under 20 = .ok (.getfield 49, 3) := by decide +kernel
theorem dX11_under_23 : decode cX11_under 23 = .ok (.getfield 89, 3) := by decide +kernel
theorem dX11_under_26 : decode cX11_under 26 = .ok (.if_icmp .ge 53, 3) := by decide +kernel
theorem dX11_under_29 : decode cX11_under 29 = .ok (.aload_n 0, 1) := by decide +kernel
theorem dX11_under_30 : decode cX11_under 30 = .ok (.getfield 31, 3) := by decide +kernel
theorem dX11_under_33 : decode cX11_under 33 = .ok (.iload 4, 2) := by decide +kernel
theorem dX11_under_35 : decode cX11_under 35 = .ok (.invokevirtual 135, 3) := by decide +kernel
theorem dX11_under_38 : decode cX11_under 38 = .ok (.istore 5, 2) := by decide +kernel
theorem dX11_under_40 : decode cX11_under 40 = .ok (.aload_n 0, 1) := by decide +kernel
theorem dX11_under_41 : decode cX11_under 41 = .ok (.getfield 31, 3) := by decide +kernel
theorem dX11_under_44 : decode cX11_under 44 = .ok (.getfield 147, 3) := by decide +kernel
theorem dX11_under_47 : decode cX11_under 47 = .ok (.iload 5, 2) := by decide +kernel
theorem dX11_under_49 : decode cX11_under 49 = .ok (.baload, 1) := by decide +kernel
theorem dX11_under_50 : decode cX11_under 50 = .ok (.ifCond .eq 23, 3) := by decide +kernel
theorem dX11_under_53 : decode cX11_under 53 = .ok (.aload_n 0, 1) := by decide +kernel
theorem dX11_under_54 : decode cX11_under 54 = .ok (.getfield 31, 3) := by decide +kernel
theorem dX11_under_57 : decode cX11_under 57 = .ok (.getfield 141, 3) := by decide +kernel
theorem dX11_under_60 : decode cX11_under 60 = .ok (.iload 5, 2) := by decide +kernel
theorem dX11_under_62 : decode cX11_under 62 = .ok (.iload_n 1, 1) := by decide +kernel
theorem dX11_under_63 : decode cX11_under 63 = .ok (.iload_n 2, 1) := by decide +kernel
theorem dX11_under_64 : decode cX11_under 64 = .ok (.invokevirtual 166, 3) := by decide +kernel
theorem dX11_under_67 : decode cX11_under 67 = .ok (.ifCond .eq 6, 3) := by decide +kernel
theorem dX11_under_70 : decode cX11_under 70 = .ok (.iload 4, 2) := by decide +kernel
theorem dX11_under_72 : decode cX11_under 72 = .ok (.istore_n 3, 1) := by decide +kernel
theorem dX11_under_73 : decode cX11_under 73 = .ok (.iinc 4 1, 3) := by decide +kernel
theorem dX11_under_76 : decode cX11_under 76 = .ok (.goto (-59), 3) := by decide +kernel
theorem dX11_under_79 : decode cX11_under 79 = .ok (.iload_n 3, 1) := by decide +kernel
theorem dX11_under_80 : decode cX11_under 80 = .ok (.iconst (-1), 1) := by decide +kernel
theorem dX11_under_81 : decode cX11_under 81 = .ok (.if_icmp .eq 39, 3) := by decide +kernel
theorem dX11_under_84 : decode cX11_under 84 = .ok (.aload_n 0, 1) := by decide +kernel
theorem dX11_under_85 : decode cX11_under 85 = .ok (.getfield 31, 3) := by decide +kernel
theorem dX11_under_88 : decode cX11_under 88 = .ok (.aload_n 0, 1) := by decide +kernel
theorem dX11_under_89 : decode cX11_under 89 = .ok (.getfield 49, 3) := by decide +kernel
theorem dX11_under_92 : decode cX11_under 92 = .ok (.iload_n 3, 1) := by decide +kernel
theorem dX11_under_93 : decode cX11_under 93 = .ok (.invokevirtual 169, 3) := by decide +kernel
theorem dX11_under_96 : decode cX11_under 96 = .ok (.ifCond .eq 24, 3) := by decide +kernel
theorem dX11_under_99 : decode cX11_under 99 = .ok (.aload_n 0, 1) := by decide +kernel
theorem dX11_under_100 : decode cX11_under 100 = .ok (.getfield 31, 3) := by decide +kernel
theorem dX11_under_103 : decode cX11_under 103 = .ok (.getfield 163, 3) := by decide +kernel
theorem dX11_under_106 : decode cX11_under 106 = .ok (.iload_n 3, 1) := by decide +kernel
theorem dX11_under_107 : decode cX11_under 107 = .ok (.iload_n 1, 1) := by decide +kernel
theorem dX11_under_108 : decode cX11_under 108 = .ok (.iload_n 2, 1) := by decide +kernel
theorem dX11_under_109 : decode cX11_under 109 = .ok (.invokevirtual 166, 3) := by decide +kernel
theorem dX11_under_112 : decode cX11_under 112 = .ok (.ifCond .eq 8, 3) := by decide +kernel
theorem dX11_under_115 : decode cX11_under 115 = .ok (.bipush 100, 2) := by decide +kernel
theorem dX11_under_117 : decode cX11_under 117 = .ok (.iload_n 3, 1) := by decide +kernel
theorem dX11_under_118 : decode cX11_under 118 = .ok (.iadd, 1) := by decide +kernel
theorem dX11_under_119 : decode cX11_under 119 = .ok (.ireturn, 1) := by decide +kernel
theorem dX11_under_120 : decode cX11_under 120 = .ok (.iload_n 3, 1) := by decide +kernel
theorem dX11_under_121 : decode cX11_under 121 = .ok (.ireturn, 1) := by decide +kernel
theorem dX11_letters_0 : decode cX11_letters 0 = .ok (.aload_n 0, 1) := by decide +kernel
theorem dX11_letters_1 : decode cX11_letters 1 = .ok (.getfield 31, 3) := by decide +kernel
theorem dX11_letters_4 : decode cX11_letters 4 = .ok (.getfield 86, 3) := by decide +kernel
theorem dX11_letters_7 : decode cX11_letters 7 = .ok (.ifCond .eq 14, 3) := by decide +kernel
theorem dX11_letters_10 : decode cX11_letters 10 = .ok (.aload_n 0, 1) := by decide +kernel
theorem dX11_letters_11 : decode cX11_letters 11 = .ok (.getfield 49, 3) := by decide +kernel
theorem dX11_letters_14 : decode cX11_letters 14 = .ok (.iload_n 1, 1) := by decide +kernel
theorem dX11_letters_15 : decode cX11_letters 15 = .ok (.invokevirtual 132, 3) := by decide +kernel
theorem dX11_letters_18 : decode cX11_letters 18 = .ok (.ifCond .ne 5, 3) := by decide +kernel
theorem dX11_letters_21 : decode cX11_letters 21 = .ok (.iconst (-1), 1) := by decide +kernel
theorem dX11_letters_22 : decode cX11_letters 22 = .ok (.ireturn, 1) := by decide +kernel
theorem dX11_letters_23 : decode cX11_letters 23 = .ok (.aload_n 0, 1) := by decide +kernel
theorem dX11_letters_24 : decode cX11_letters 24 = .ok (.getfield 31, 3) := by decide +kernel
theorem dX11_letters_27 : decode cX11_letters 27 = .ok (.iload_n 1, 1) := by decide +kernel
theorem dX11_letters_28 : decode cX11_letters 28 = .ok (.invokevirtual 135, 3) := by decide +kernel
theorem dX11_letters_31 : decode cX11_letters 31 = .ok (.istore_n 2, 1) := by decide +kernel
theorem dX11_letters_32 : decode cX11_letters 32 = .ok (.aload_n 0, 1) := by decide +kernel
theorem dX11_letters_33 : decode cX11_letters 33 = .ok (.getfield 31, 3) := by decide +kernel
theorem dX11_letters_36 : decode cX11_letters 36 = .ok (.getfield 141, 3) := by decide +kernel
theorem dX11_letters_39 : decode cX11_letters 39 = .ok (.getfield 173, 3) := by decide +kernel
theorem dX11_letters_42 : decode cX11_letters 42 = .ok (.iload_n 2, 1) := by decide +kernel
theorem dX11_letters_43 : decode cX11_letters 43 = .ok (.iaload, 1) := by decide +kernel
theorem dX11_letters_44 : decode cX11_letters 44 = .ok (.iconst 2, 1) := by decide +kernel
theorem dX11_letters_45 : decode cX11_letters 45 = .ok (.isub, 1) := by decide +kernel
theorem dX11_letters_46 : decode cX11_letters 46 = .ok (.istore_n 3, 1) := by decide +kernel
theorem dX11_letters_47 : decode cX11_letters 47 = .ok (.aload_n 0, 1) := by decide +kernel
theorem dX11_letters_48 : decode cX11_letters 48 = .ok (.getfield 31, 3) := by decide +kernel
theorem dX11_letters_51 : decode cX11_letters 51 = .ok (.getfield 147, 3) := by decide +kernel
theorem dX11_letters_54 : decode cX11_letters 54 = .ok (.iload_n 2, 1) := by decide +kernel
theorem dX11_letters_55 : decode cX11_letters 55 = .ok (.baload, 1) := by decide +kernel
theorem dX11_letters_56 : decode cX11_letters 56 = .ok (.ifCond .eq 24, 3) := by decide +kernel
theorem dX11_letters_59 : decode cX11_letters 59 = .ok (.aload_n 0, 1) := by decide +kernel
theorem dX11_letters_60 : decode cX11_letters 60 = .ok (.getfield 31, 3) := by decide +kernel
theorem dX11_letters_63 : decode cX11_letters 63 = .ok (.getfield 141, 3) := by decide +kernel
theorem dX11_letters_66 : decode cX11_letters 66 = .ok (.getfield 176, 3) := by decide +kernel
theorem dX11_letters_69 : decode cX11_letters 69 = .ok (.iload_n 2, 1) := by decide +kernel
theorem dX11_letters_70 : decode cX11_letters 70 = .ok (.iaload, 1) := by decide +kernel
theorem dX11_letters_71 : decode cX11_letters 71 = .ok (.bipush 10, 2) := by decide +kernel
theorem dX11_letters_73 : decode cX11_letters 73 = .ok (.if_icmp .lt 7, 3) := by decide +kernel
theorem dX11_letters_76 : decode cX11_letters 76 = .ok (.iload_n 3, 1) := by decide +kernel
theorem dX11_letters_77 : decode cX11_letters 77 = .ok (.ifCond .ge 5, 3) := by decide +kernel
theorem dX11_letters_80 : decode cX11_letters 80 = .ok (.iconst 0, 1) := by decide +kernel
theorem dX11_letters_81 : decode cX11_letters 81 = .ok (.ireturn, 1) := by decide +kernel
theorem dX11_letters_82 : decode cX11_letters 82 = .ok (.aload_n 0, 1) := by decide +kernel
theorem dX11_letters_83 : decode cX11_letters 83 = .ok (.getfield 49, 3) := by decide +kernel
theorem dX11_letters_86 : decode cX11_letters 86 = .ok (.getfield 179, 3) := by decide +kernel
theorem dX11_letters_89 : decode cX11_letters 89 = .ok (.iload_n 1, 1) := by decide +kernel
theorem dX11_letters_90 : decode cX11_letters 90 = .ok (.iaload, 1) := by decide +kernel
theorem dX11_letters_91 : decode cX11_letters 91 = .ok (.iload_n 3, 1) := by decide +kernel
theorem dX11_letters_92 : decode cX11_letters 92 = .ok (.bipush 6, 2) := by decide +kernel
theorem dX11_letters_94 : decode cX11_letters 94 = .ok (.idiv, 1) := by decide +kernel
theorem dX11_letters_95 : decode cX11_letters 95 = .ok (.invokestatic 182, 3) := by decide +kernel
theorem dX11_letters_98 : decode cX11_letters 98 = .ok (.ireturn, 1) := by decide +kernel
theorem dX11_moved_0 : decode cX11_moved 0 = .ok (.aload_n 0, 1) := by decide +kernel
theorem dX11_moved_1 : decode cX11_moved 1 = .ok (.getfield 31, 3) := by decide +kernel
theorem dX11_moved_4 : decode cX11_moved 4 = .ok (.getfield 86, 3) := by decide +kernel
theorem dX11_moved_7 : decode cX11_moved 7 = .ok (.iconst 2, 1) := by decide +kernel
theorem dX11_moved_8 : decode cX11_moved 8 = .ok (.if_icmp .lt 14, 3) := by decide +kernel
theorem dX11_moved_11 : decode cX11_moved 11 = .ok (.aload_n 0, 1) := by decide +kernel
theorem dX11_moved_12 : decode cX11_moved 12 = .ok (.getfield 49, 3) := by decide +kernel
theorem dX11_moved_15 : decode cX11_moved 15 = .ok (.iload_n 1, 1) := by decide +kernel
theorem dX11_moved_16 : decode cX11_moved 16 = .ok (.invokevirtual 132, 3) := by decide +kernel
theorem dX11_moved_19 : decode cX11_moved 19 = .ok (.ifCond .ne 5, 3) := by decide +kernel
theorem dX11_moved_22 : decode cX11_moved 22 = .ok (.iconst (-1), 1) := by decide +kernel
theorem dX11_moved_23 : decode cX11_moved 23 = .ok (.ireturn, 1) := by decide +kernel
theorem dX11_moved_24 : decode cX11_moved 24 = .ok (.aload_n 0, 1) := by decide +kernel
theorem dX11_moved_25 : decode cX11_moved 25 = .ok (.getfield 31, 3) := by decide +kernel
theorem dX11_moved_28 : decode cX11_moved 28 = .ok (.aload_n 0, 1) := by decide +kernel
theorem dX11_moved_29 : decode cX11_moved 29 = .ok (.getfield 31, 3) := by decide +kernel
theorem dX11_moved_32 : decode cX11_moved 32 = .ok (.getfield 86, 3) := by decide +kernel
theorem dX11_moved_35 : decode cX11_moved 35 = .ok (.iconst 2, 1) := by decide +kernel
theorem dX11_moved_36 : decode cX11_moved 36 = .ok (.isub, 1) := by decide +kernel
theorem dX11_moved_37 : decode cX11_moved 37 = .ok (.iload_n 1, 1) := by decide +kernel
theorem dX11_moved_38 : decode cX11_moved 38 = .ok (.invokevirtual 187, 3) := by decide +kernel
theorem dX11_moved_41 : decode cX11_moved 41 = .ok (.istore_n 2, 1) := by decide +kernel
theorem dX11_moved_42 : decode cX11_moved 42 = .ok (.aload_n 0, 1) := by decide +kernel
theorem dX11_moved_43 : decode cX11_moved 43 = .ok (.getfield 31, 3) := by decide +kernel
theorem dX11_moved_46 : decode cX11_moved 46 = .ok (.iload_n 1, 1) := by decide +kernel
theorem dX11_moved_47 : decode cX11_moved 47 = .ok (.invokevirtual 135, 3) := by decide +kernel
theorem dX11_moved_50 : decode cX11_moved 50 = .ok (.istore_n 3, 1) := by decide +kernel
theorem dX11_moved_51 : decode cX11_moved 51 = .ok (.aload_n 0, 1) := by decide +kernel
theorem dX11_moved_52 : decode cX11_moved 52 = .ok (.getfield 31, 3) := by decide +kernel
theorem dX11_moved_55 : decode cX11_moved 55 = .ok (.getfield 147, 3) := by decide +kernel
theorem dX11_moved_58 : decode cX11_moved 58 = .ok (.iload_n 2, 1) := by decide +kernel
theorem dX11_moved_59 : decode cX11_moved 59 = .ok (.baload, 1) := by decide +kernel
theorem dX11_moved_60 : decode cX11_moved 60 = .ok (.ifCond .eq 15, 3) := by decide +kernel
theorem dX11_moved_63 : decode cX11_moved 63 = .ok (.aload_n 0, 1) := by decide +kernel
theorem dX11_moved_64 : decode cX11_moved 64 = .ok (.getfield 31, 3) := by decide +kernel
theorem dX11_moved_67 : decode cX11_moved 67 = .ok (.getfield 147, 3) := by decide +kernel
theorem dX11_moved_70 : decode cX11_moved 70 = .ok (.iload_n 3, 1) := by decide +kernel
theorem dX11_moved_71 : decode cX11_moved 71 = .ok (.baload, 1) := by decide +kernel
theorem dX11_moved_72 : decode cX11_moved 72 = .ok (.ifCond .ne 5, 3) := by decide +kernel
theorem dX11_moved_75 : decode cX11_moved 75 = .ok (.iconst (-1), 1) := by decide +kernel
theorem dX11_moved_76 : decode cX11_moved 76 = .ok (.ireturn, 1) := by decide +kernel
theorem dX11_moved_77 : decode cX11_moved 77 = .ok (.aload_n 0, 1) := by decide +kernel
theorem dX11_moved_78 : decode cX11_moved 78 = .ok (.getfield 31, 3) := by decide +kernel
theorem dX11_moved_81 : decode cX11_moved 81 = .ok (.getfield 141, 3) := by decide +kernel
theorem dX11_moved_84 : decode cX11_moved 84 = .ok (.iload_n 2, 1) := by decide +kernel
theorem dX11_moved_85 : decode cX11_moved 85 = .ok (.aload_n 0, 1) := by decide +kernel
theorem dX11_moved_86 : decode cX11_moved 86 = .ok (.getfield 31, 3) := by decide +kernel
theorem dX11_moved_89 : decode cX11_moved 89 = .ok (.getfield 141, 3) := by decide +kernel
theorem dX11_moved_92 : decode cX11_moved 92 = .ok (.iload_n 3, 1) := by decide +kernel
theorem dX11_moved_93 : decode cX11_moved 93 = .ok (.invokevirtual 190, 3) := by decide +kernel
theorem dX11_moved_96 : decode cX11_moved 96 = .ok (.ireturn, 1) := by decide +kernel
theorem dX11_past_0 : decode cX11_past 0 = .ok (.aload_n 0, 1) := by decide +kernel
theorem dX11_past_1 : decode cX11_past 1 = .ok (.getfield 31, 3) := by decide +kernel
theorem dX11_past_4 : decode cX11_past 4 = .ok (.iload_n 1, 1) := by decide +kernel
theorem dX11_past_5 : decode cX11_past 5 = .ok (.invokevirtual 194, 3) := by decide +kernel
theorem dX11_past_8 : decode cX11_past 8 = .ok (.ifCond .eq 23, 3) := by decide +kernel
theorem dX11_past_11 : decode cX11_past 11 = .ok (.aload_n 0, 1) := by decide +kernel
theorem dX11_past_12 : decode cX11_past 12 = .ok (.getfield 49, 3) := by decide +kernel
theorem dX11_past_15 : decode cX11_past 15 = .ok (.iload_n 2, 1) := by decide +kernel
theorem dX11_past_16 : decode cX11_past 16 = .ok (.invokevirtual 132, 3) := by decide +kernel
theorem dX11_past_19 : decode cX11_past 19 = .ok (.ifCond .eq 12, 3) := by decide +kernel
theorem dX11_past_22 : decode cX11_past 22 = .ok (.iconst 0, 1) := by decide +kernel
theorem dX11_past_23 : decode cX11_past 23 = .ok (.iconst 5, 1) := by decide +kernel
theorem dX11_past_24 : decode cX11_past 24 = .ok (.iload_n 3, 1) := by decide +kernel
theorem dX11_past_25 : decode cX11_past 25 = .ok (.invokestatic 60, 3) := by decide +kernel
theorem dX11_past_28 : decode cX11_past 28 = .ok (.ifCond .ne 11, 3) := by decide +kernel
theorem dX11_past_31 : decode cX11_past 31 = .ok (.new 197, 3) := by decide +kernel
theorem dX11_past_34 : decode cX11_past 34 = .ok (.dup, 1) := by decide +kernel
theorem dX11_past_35 : decode cX11_past 35 = .ok (.invokespecial 199, 3) := by decide +kernel
theorem dX11_past_38 : decode cX11_past 38 = .ok (.athrow, 1) := by decide +kernel
theorem dX11_past_39 : decode cX11_past 39 = .ok (.aload_n 0, 1) := by decide +kernel
theorem dX11_past_40 : decode cX11_past 40 = .ok (.getfield 31, 3) := by decide +kernel
theorem dX11_past_43 : decode cX11_past 43 = .ok (.iload_n 1, 1) := by decide +kernel
theorem dX11_past_44 : decode cX11_past 44 = .ok (.iload_n 2, 1) := by decide +kernel
theorem dX11_past_45 : decode cX11_past 45 = .ok (.invokevirtual 187, 3) := by decide +kernel
theorem dX11_past_48 : decode cX11_past 48 = .ok (.istore 4, 2) := by decide +kernel
theorem dX11_past_50 : decode cX11_past 50 = .ok (.iload_n 3, 1) := by decide +kernel
theorem dX11_past_51 : decode cX11_past 51 = .ok (.iconst 5, 1) := by decide +kernel
theorem dX11_past_52 : decode cX11_past 52 = .ok (.if_icmp .ne 16, 3) := by decide +kernel
theorem dX11_past_55 : decode cX11_past 55 = .ok (.aload_n 0, 1) := by decide +kernel
theorem dX11_past_56 : decode cX11_past 56 = .ok (.getfield 31, 3) := by decide +kernel
theorem dX11_past_59 : decode cX11_past 59 = .ok (.getfield 200, 3) := by decide +kernel
theorem dX11_past_62 : decode cX11_past 62 = .ok (.iload_n 1, 1) := by decide +kernel
theorem dX11_past_63 : decode cX11_past 63 = .ok (.bipush 50, 2) := by decide +kernel
theorem dX11_past_65 : decode cX11_past 65 = .ok (.irem, 1) := by decide +kernel
theorem dX11_past_66 : decode cX11_past 66 = .ok (.iaload, 1) := by decide +kernel
theorem dX11_past_67 : decode cX11_past 67 = .ok (.ireturn, 1) := by decide +kernel
theorem dX11_past_68 : decode cX11_past 68 = .ok (.iload_n 3, 1) := by decide +kernel
theorem dX11_past_69 : decode cX11_past 69 = .ok (.iconst 4, 1) := by decide +kernel
theorem dX11_past_70 : decode cX11_past 70 = .ok (.if_icmp .eq 24, 3) := by decide +kernel
theorem dX11_past_73 : decode cX11_past 73 = .ok (.aload_n 0, 1) := by decide +kernel
theorem dX11_past_74 : decode cX11_past 74 = .ok (.getfield 31, 3) := by decide +kernel
theorem dX11_past_77 : decode cX11_past 77 = .ok (.getfield 147, 3) := by decide +kernel
theorem dX11_past_80 : decode cX11_past 80 = .ok (.iload 4, 2) := by decide +kernel
theorem dX11_past_82 : decode cX11_past 82 = .ok (.baload, 1) := by decide +kernel
theorem dX11_past_83 : decode cX11_past 83 = .ok (.ifCond .ne 11, 3) := by decide +kernel
theorem dX11_past_86 : decode cX11_past 86 = .ok (.new 197, 3) := by decide +kernel
theorem dX11_past_89 : decode cX11_past 89 = .ok (.dup, 1) := by decide +kernel
theorem dX11_past_90 : decode cX11_past 90 = .ok (.invokespecial 199, 3) := by decide +kernel
theorem dX11_past_93 : decode cX11_past 93 = .ok (.athrow, 1) := by decide +kernel
theorem dX11_past_94 : decode cX11_past 94 = .ok (.aload_n 0, 1) := by decide +kernel
theorem dX11_past_95 : decode cX11_past 95 = .ok (.getfield 31, 3) := by decide +kernel
theorem dX11_past_98 : decode cX11_past 98 = .ok (.getfield 141, 3) := by decide +kernel
theorem dX11_past_101 : decode cX11_past 101 = .ok (.iload 4, 2) := by decide +kernel
theorem dX11_past_103 : decode cX11_past 103 = .ok (.iload_n 3, 1) := by decide +kernel
theorem dX11_past_104 : decode cX11_past 104 = .ok (.invokevirtual 156, 3) := by decide +kernel
theorem dX11_past_107 : decode cX11_past 107 = .ok (.ireturn, 1) := by decide +kernel
theorem dX11_about_0 : decode cX11_about 0 = .ok (.aload_n 0, 1) := by decide +kernel
theorem dX11_about_1 : decode cX11_about 1 = .ok (.getfield 49, 3) := by decide +kernel
theorem dX11_about_4 : decode cX11_about 4 = .ok (.iload_n 1, 1) := by decide +kernel
theorem dX11_about_5 : decode cX11_about 5 = .ok (.invokevirtual 132, 3) := by decide +kernel
theorem dX11_about_8 : decode cX11_about 8 = .ok (.ifCond .ne 5, 3) := by decide +kernel
theorem dX11_about_11 : decode cX11_about 11 = .ok (.iconst (-1), 1) := by decide +kernel
theorem dX11_about_12 : decode cX11_about 12 = .ok (.ireturn, 1) := by decide +kernel
theorem dX11_about_13 : decode cX11_about 13 = .ok (.iload_n 2, 1) := by decide +kernel
theorem dX11_about_14 : decode cX11_about 14 = .ok (.tableswitch 91 0 4 #[34, 44, 61, 71, 81], 34) := by decide +kernel
theorem dX11_about_48 : decode cX11_about 48 = .ok (.aload_n 0, 1) := by decide +kernel
theorem dX11_about_49 : decode cX11_about 49 = .ok (.getfield 49, 3) := by decide +kernel
theorem dX11_about_52 : decode cX11_about 52 = .ok (.getfield 203, 3) := by decide +kernel
theorem dX11_about_55 : decode cX11_about 55 = .ok (.iload_n 1, 1) := by decide +kernel
theorem dX11_about_56 : decode cX11_about 56 = .ok (.iaload, 1) := by decide +kernel
theorem dX11_about_57 : decode cX11_about 57 = .ok (.ireturn, 1) := by decide +kernel
theorem dX11_about_58 : decode cX11_about 58 = .ok (.aload_n 0, 1) := by decide +kernel
theorem dX11_about_59 : decode cX11_about 59 = .ok (.getfield 49, 3) := by decide +kernel
theorem dX11_about_62 : decode cX11_about 62 = .ok (.iload_n 1, 1) := by decide +kernel
theorem dX11_about_63 : decode cX11_about 63 = .ok (.invokevirtual 106, 3) := by decide +kernel
theorem dX11_about_66 : decode cX11_about 66 = .ok (.ifCond .eq 7, 3) := by decide +kernel
theorem dX11_about_69 : decode cX11_about 69 = .ok (.iconst 1, 1) := by decide +kernel
theorem dX11_about_70 : decode cX11_about 70 = .ok (.goto 4, 3) := by decide +kernel
theorem dX11_about_73 : decode cX11_about 73 = .ok (.iconst 0, 1) := by decide +kernel
theorem dX11_about_74 : decode cX11_about 74 = .ok (.ireturn, 1) := by decide +kernel
theorem dX11_about_75 : decode cX11_about 75 = .ok (.aload_n 0, 1) := by decide +kernel
theorem dX11_about_76 : decode cX11_about 76 = .ok (.getfield 49, 3) := by decide +kernel
theorem dX11_about_79 : decode cX11_about 79 = .ok (.getfield 206, 3) := by decide +kernel
theorem dX11_about_82 : decode cX11_about 82 = .ok (.iload_n 1, 1) := by decide +kernel
theorem dX11_about_83 : decode cX11_about 83 = .ok (.iaload, 1) := by decide +kernel
theorem dX11_about_84 : decode cX11_about 84 = .ok (.ireturn, 1) := by decide +kernel
theorem dX11_about_85 : decode cX11_about 85 = .ok (.aload_n 0, 1) := by decide +kernel
theorem dX11_about_86 : decode cX11_about 86 = .ok (.getfield 49, 3) := by decide +kernel
theorem dX11_about_89 : decode cX11_about 89 = .ok (.getfield 179, 3) := by decide +kernel
theorem dX11_about_92 : decode cX11_about 92 = .ok (.iload_n 1, 1) := by decide +kernel
theorem dX11_about_93 : decode cX11_about 93 = .ok (.iaload, 1) := by decide +kernel
theorem dX11_about_94 : decode cX11_about 94 = .ok (.ireturn, 1) := by decide +kernel
theorem dX11_about_95 : decode cX11_about 95 = .ok (.aload_n 0, 1) := by decide +kernel
theorem dX11_about_96 : decode cX11_about 96 = .ok (.getfield 49, 3) := by decide +kernel
theorem dX11_about_99 : decode cX11_about 99 = .ok (.getfield 209, 3) := by decide +kernel
theorem dX11_about_102 : decode cX11_about 102 = .ok (.iload_n 1, 1) := by decide +kernel
theorem dX11_about_103 : decode cX11_about 103 = .ok (.iaload, 1) := by decide +kernel
theorem dX11_about_104 : decode cX11_about 104 = .ok (.ireturn, 1) := by decide +kernel
theorem dX11_about_105 : decode cX11_about 105 = .ok (.aload_n 0, 1) := by decide +kernel
theorem dX11_about_106 : decode cX11_about 106 = .ok (.getfield 49, 3) := by decide +kernel
theorem dX11_about_109 : decode cX11_about 109 = .ok (.iload_n 1, 1) := by decide +kernel
theorem dX11_about_110 : decode cX11_about 110 = .ok (.invokevirtual 106, 3) := by decide +kernel
theorem dX11_about_113 : decode cX11_about 113 = .ok (.ifCond .eq 12, 3) := by decide +kernel
theorem dX11_about_116 : decode cX11_about 116 = .ok (.aload_n 0, 1) := by decide +kernel
theorem dX11_about_117 : decode cX11_about 117 = .ok (.iload_n 1, 1) := by decide +kernel
theorem dX11_about_118 : decode cX11_about 118 = .ok (.iload_n 2, 1) := by decide +kernel
theorem dX11_about_119 : decode cX11_about 119 = .ok (.invokevirtual 212, 3) := by decide +kernel
theorem dX11_about_122 : decode cX11_about 122 = .ok (.goto 4, 3) := by decide +kernel
theorem dX11_about_125 : decode cX11_about 125 = .ok (.iconst (-1), 1) := by decide +kernel
theorem dX11_about_126 : decode cX11_about 126 = .ok (.ireturn, 1) := by decide +kernel
theorem dX11_letter_0 : decode cX11_letter 0 = .ok (.aload_n 0, 1) := by decide +kernel
theorem dX11_letter_1 : decode cX11_letter 1 = .ok (.getfield 49, 3) := by decide +kernel
theorem dX11_letter_4 : decode cX11_letter 4 = .ok (.iload_n 1, 1) := by decide +kernel
theorem dX11_letter_5 : decode cX11_letter 5 = .ok (.invokevirtual 132, 3) := by decide +kernel
theorem dX11_letter_8 : decode cX11_letter 8 = .ok (.ifCond .eq 32, 3) := by decide +kernel
theorem dX11_letter_11 : decode cX11_letter 11 = .ok (.iload_n 2, 1) := by decide +kernel
theorem dX11_letter_12 : decode cX11_letter 12 = .ok (.ifCond .lt 28, 3) := by decide +kernel
theorem dX11_letter_15 : decode cX11_letter 15 = .ok (.iload_n 2, 1) := by decide +kernel
theorem dX11_letter_16 : decode cX11_letter 16 = .ok (.aload_n 0, 1) := by decide +kernel
theorem dX11_letter_17 : decode cX11_letter 17 = .ok (.getfield 49, 3) := by decide +kernel
theorem dX11_letter_20 : decode cX11_letter 20 = .ok (.getfield 179, 3) := by decide +kernel
theorem dX11_letter_23 : decode cX11_letter 23 = .ok (.iload_n 1, 1) := by decide +kernel
theorem dX11_letter_24 : decode cX11_letter 24 = .ok (.iaload, 1) := by decide +kernel
theorem dX11_letter_25 : decode cX11_letter 25 = .ok (.if_icmp .ge 15, 3) := by decide +kernel
theorem dX11_letter_28 : decode cX11_letter 28 = .ok (.aload_n 0, 1) := by decide +kernel
theorem dX11_letter_29 : decode cX11_letter 29 = .ok (.getfield 49, 3) := by decide +kernel
theorem dX11_letter_32 : decode cX11_letter 32 = .ok (.iload_n 1, 1) := by decide +kernel
theorem dX11_letter_33 : decode cX11_letter 33 = .ok (.iload_n 2, 1) := by decide +kernel
theorem dX11_letter_34 : decode cX11_letter 34 = .ok (.invokevirtual 215, 3) := by decide +kernel
theorem dX11_letter_37 : decode cX11_letter 37 = .ok (.goto 4, 3) := by decide +kernel
theorem dX11_letter_40 : decode cX11_letter 40 = .ok (.iconst (-1), 1) := by decide +kernel
theorem dX11_letter_41 : decode cX11_letter 41 = .ok (.ireturn, 1) := by decide +kernel
theorem dX11_named_0 : decode cX11_named 0 = .ok (.aload_n 0, 1) := by decide +kernel
theorem dX11_named_1 : decode cX11_named 1 = .ok (.getfield 49, 3) := by decide +kernel
theorem dX11_named_4 : decode cX11_named 4 = .ok (.aload_n 0, 1) := by decide +kernel
theorem dX11_named_5 : decode cX11_named 5 = .ok (.getfield 20, 3) := by decide +kernel
theorem dX11_named_8 : decode cX11_named 8 = .ok (.iconst 0, 1) := by decide +kernel
theorem dX11_named_9 : decode cX11_named 9 = .ok (.aload_n 0, 1) := by decide +kernel
theorem dX11_named_10 : decode cX11_named 10 = .ok (.getfield 20, 3) := by decide +kernel
theorem dX11_named_13 : decode cX11_named 13 = .ok (.getfield 67, 3) := by decide +kernel
theorem dX11_named_16 : decode cX11_named 16 = .ok (.invokevirtual 218, 3) := by decide +kernel
theorem dX11_named_19 : decode cX11_named 19 = .ok (.istore_n 1, 1) := by decide +kernel
theorem dX11_named_20 : decode cX11_named 20 = .ok (.aload_n 0, 1) := by decide +kernel
theorem dX11_named_21 : decode cX11_named 21 = .ok (.getfield 20, 3) := by decide +kernel
theorem dX11_named_24 : decode cX11_named 24 = .ok (.iconst 0, 1) := by decide +kernel
theorem dX11_named_25 : decode cX11_named 25 = .ok (.putfield 67, 3) := by decide +kernel
theorem dX11_named_28 : decode cX11_named 28 = .ok (.iload_n 1, 1) := by decide +kernel
theorem dX11_named_29 : decode cX11_named 29 = .ok (.ireturn, 1) := by decide +kernel
theorem dX11_sizeIn_0 : decode cX11_sizeIn 0 = .ok (.aload_n 0, 1) := by decide +kernel
theorem dX11_sizeIn_1 : decode cX11_sizeIn 1 = .ok (.getfield 49, 3) := by decide +kernel
theorem dX11_sizeIn_4 : decode cX11_sizeIn 4 = .ok (.iload_n 1, 1) := by decide +kernel
theorem dX11_sizeIn_5 : decode cX11_sizeIn 5 = .ok (.invokevirtual 132, 3) := by decide +kernel
theorem dX11_sizeIn_8 : decode cX11_sizeIn 8 = .ok (.ifCond .eq 10, 3) := by decide +kernel
theorem dX11_sizeIn_11 : decode cX11_sizeIn 11 = .ok (.iload_n 2, 1) := by decide +kernel
theorem dX11_sizeIn_12 : decode cX11_sizeIn 12 = .ok (.invokestatic 99, 3) := by decide +kernel
theorem dX11_sizeIn_15 : decode cX11_sizeIn 15 = .ok (.ifCond .ne 5, 3) := by decide +kernel
theorem dX11_sizeIn_18 : decode cX11_sizeIn 18 = .ok (.iconst (-1), 1) := by decide +kernel
theorem dX11_sizeIn_19 : decode cX11_sizeIn 19 = .ok (.ireturn, 1) := by decide +kernel
theorem dX11_sizeIn_20 : decode cX11_sizeIn 20 = .ok (.aload_n 0, 1) := by decide +kernel
theorem dX11_sizeIn_21 : decode cX11_sizeIn 21 = .ok (.getfield 24, 3) := by decide +kernel
theorem dX11_sizeIn_24 : decode cX11_sizeIn 24 = .ok (.aload_n 0, 1) := by decide +kernel
theorem dX11_sizeIn_25 : decode cX11_sizeIn 25 = .ok (.getfield 49, 3) := by decide +kernel
theorem dX11_sizeIn_28 : decode cX11_sizeIn 28 = .ok (.iload_n 2, 1) := by decide +kernel
theorem dX11_sizeIn_29 : decode cX11_sizeIn 29 = .ok (.aload_n 0, 1) := by decide +kernel
theorem dX11_sizeIn_30 : decode cX11_sizeIn 30 = .ok (.getfield 42, 3) := by decide +kernel
theorem dX11_sizeIn_33 : decode cX11_sizeIn 33 = .ok (.invokevirtual 116, 3) := by decide +kernel
theorem dX11_sizeIn_36 : decode cX11_sizeIn 36 = .ok (.aload_n 0, 1) := by decide +kernel
theorem dX11_sizeIn_37 : decode cX11_sizeIn 37 = .ok (.getfield 42, 3) := by decide +kernel
theorem dX11_sizeIn_40 : decode cX11_sizeIn 40 = .ok (.iload_n 1, 1) := by decide +kernel
theorem dX11_sizeIn_41 : decode cX11_sizeIn 41 = .ok (.iaload, 1) := by decide +kernel
theorem dX11_sizeIn_42 : decode cX11_sizeIn 42 = .ok (.ireturn, 1) := by decide +kernel
theorem dX11_count_0 : decode cX11_count 0 = .ok (.iload_n 1, 1) := by decide +kernel
theorem dX11_count_1 : decode cX11_count 1 = .ok (.tableswitch 107 0 6 #[43, 51, 59, 67, 75, 83, 95], 43) := by decide +kernel
theorem dX11_count_44 : decode cX11_count 44 = .ok (.aload_n 0, 1) := by decide +kernel
theorem dX11_count_45 : decode cX11_count 45 = .ok (.getfield 49, 3) := by decide +kernel
theorem dX11_count_48 : decode cX11_count 48 = .ok (.getfield 89, 3) := by decide +kernel
theorem dX11_count_51 : decode cX11_count 51 = .ok (.ireturn, 1) := by decide +kernel
theorem dX11_count_52 : decode cX11_count 52 = .ok (.aload_n 0, 1) := by decide +kernel
theorem dX11_count_53 : decode cX11_count 53 = .ok (.getfield 49, 3) := by decide +kernel
theorem dX11_count_56 : decode cX11_count 56 = .ok (.getfield 222, 3) := by decide +kernel
theorem dX11_count_59 : decode cX11_count 59 = .ok (.ireturn, 1) := by decide +kernel
theorem dX11_count_60 : decode cX11_count 60 = .ok (.aload_n 0, 1) := by decide +kernel
theorem dX11_count_61 : decode cX11_count 61 = .ok (.getfield 24, 3) := by decide +kernel
theorem dX11_count_64 : decode cX11_count 64 = .ok (.getfield 83, 3) := by decide +kernel
theorem dX11_count_67 : decode cX11_count 67 = .ok (.ireturn, 1) := by decide +kernel
theorem dX11_count_68 : decode cX11_count 68 = .ok (.aload_n 0, 1) := by decide +kernel
theorem dX11_count_69 : decode cX11_count 69 = .ok (.getfield 31, 3) := by decide +kernel
theorem dX11_count_72 : decode cX11_count 72 = .ok (.getfield 86, 3) := by decide +kernel
theorem dX11_count_75 : decode cX11_count 75 = .ok (.ireturn, 1) := by decide +kernel
theorem dX11_count_76 : decode cX11_count 76 = .ok (.aload_n 0, 1) := by decide +kernel
theorem dX11_count_77 : decode cX11_count 77 = .ok (.getfield 20, 3) := by decide +kernel
theorem dX11_count_80 : decode cX11_count 80 = .ok (.getfield 67, 3) := by decide +kernel
theorem dX11_count_83 : decode cX11_count 83 = .ok (.ireturn, 1) := by decide +kernel
theorem dX11_count_84 : decode cX11_count 84 = .ok (.aload_n 0, 1) := by decide +kernel
theorem dX11_count_85 : decode cX11_count 85 = .ok (.getfield 31, 3) := by decide +kernel
theorem dX11_count_88 : decode cX11_count 88 = .ok (.aload_n 0, 1) := by decide +kernel
theorem dX11_count_89 : decode cX11_count 89 = .ok (.getfield 49, 3) := by decide +kernel
theorem dX11_count_92 : decode cX11_count 92 = .ok (.invokevirtual 225, 3) := by decide +kernel
theorem dX11_count_95 : decode cX11_count 95 = .ok (.ireturn, 1) := by decide +kernel
theorem dX11_count_96 : decode cX11_count 96 = .ok (.aload_n 0, 1) := by decide +kernel
theorem dX11_count_97 : decode cX11_count 97 = .ok (.getfield 31, 3) := by decide +kernel
theorem dX11_count_100 : decode cX11_count 100 = .ok (.aload_n 0, 1) := by decide +kernel
theorem dX11_count_101 : decode cX11_count 101 = .ok (.getfield 49, 3) := by decide +kernel
theorem dX11_count_104 : decode cX11_count 104 = .ok (.invokevirtual 229, 3) := by decide +kernel
theorem dX11_count_107 : decode cX11_count 107 = .ok (.ireturn, 1) := by decide +kernel
theorem dX11_count_108 : decode cX11_count 108 = .ok (.iconst (-1), 1) := by decide +kernel
theorem dX11_count_109 : decode cX11_count 109 = .ok (.ireturn, 1) := by decide +kernel
theorem dX11_aboutGroup_0 : decode cX11_aboutGroup 0 = .ok (.iload_n 2, 1) := by decide +kernel
theorem dX11_aboutGroup_1 : decode cX11_aboutGroup 1 = .ok (.tableswitch 87 5 8 #[31, 41, 59, 69], 31) := by decide +kernel
theorem dX11_aboutGroup_32 : decode cX11_aboutGroup 32 = .ok (.aload_n 0, 1) := by decide +kernel
theorem dX11_aboutGroup_33 : decode cX11_aboutGroup 33 = .ok (.getfield 49, 3) := by decide +kernel
theorem dX11_aboutGroup_36 : decode cX11_aboutGroup 36 = .ok (.getfield 232, 3) := by decide +kernel
theorem dX11_aboutGroup_39 : decode cX11_aboutGroup 39 = .ok (.iload_n 1, 1) := by decide +kernel
theorem dX11_aboutGroup_40 : decode cX11_aboutGroup 40 = .ok (.iaload, 1) := by decide +kernel
theorem dX11_aboutGroup_41 : decode cX11_aboutGroup 41 = .ok (.ireturn, 1) := by decide +kernel
theorem dX11_aboutGroup_42 : decode cX11_aboutGroup 42 = .ok (.aload_n 0, 1) := by decide +kernel
theorem dX11_aboutGroup_43 : decode cX11_aboutGroup 43 = .ok (.getfield 49, 3) := by decide +kernel
theorem dX11_aboutGroup_46 : decode cX11_aboutGroup 46 = .ok (.getfield 235, 3) := by decide +kernel
theorem dX11_aboutGroup_49 : decode cX11_aboutGroup 49 = .ok (.iload_n 1, 1) := by decide +kernel
theorem dX11_aboutGroup_50 : decode cX11_aboutGroup 50 = .ok (.baload, 1) := by decide +kernel
theorem dX11_aboutGroup_51 : decode cX11_aboutGroup 51 = .ok (.ifCond .eq 7, 3) := by decide +kernel
theorem dX11_aboutGroup_54 : decode cX11_aboutGroup 54 = .ok (.iconst 1, 1) := by decide +kernel
theorem dX11_aboutGroup_55 : decode cX11_aboutGroup 55 = .ok (.goto 4, 3) := by decide +kernel
theorem dX11_aboutGroup_58 : decode cX11_aboutGroup 58 = .ok (.iconst 0, 1) := by decide +kernel
theorem dX11_aboutGroup_59 : decode cX11_aboutGroup 59 = .ok (.ireturn, 1) := by decide +kernel
theorem dX11_aboutGroup_60 : decode cX11_aboutGroup 60 = .ok (.aload_n 0, 1) := by decide +kernel
theorem dX11_aboutGroup_61 : decode cX11_aboutGroup 61 = .ok (.getfield 49, 3) := by decide +kernel
theorem dX11_aboutGroup_64 : decode cX11_aboutGroup 64 = .ok (.getfield 109, 3) := by decide +kernel
theorem dX11_aboutGroup_67 : decode cX11_aboutGroup 67 = .ok (.iload_n 1, 1) := by decide +kernel
theorem dX11_aboutGroup_68 : decode cX11_aboutGroup 68 = .ok (.iaload, 1) := by decide +kernel
theorem dX11_aboutGroup_69 : decode cX11_aboutGroup 69 = .ok (.ireturn, 1) := by decide +kernel
theorem dX11_aboutGroup_70 : decode cX11_aboutGroup 70 = .ok (.aload_n 0, 1) := by decide +kernel
theorem dX11_aboutGroup_71 : decode cX11_aboutGroup 71 = .ok (.getfield 49, 3) := by decide +kernel
theorem dX11_aboutGroup_74 : decode cX11_aboutGroup 74 = .ok (.getfield 112, 3) := by decide +kernel
theorem dX11_aboutGroup_77 : decode cX11_aboutGroup 77 = .ok (.iload_n 1, 1) := by decide +kernel
theorem dX11_aboutGroup_78 : decode cX11_aboutGroup 78 = .ok (.baload, 1) := by decide +kernel
theorem dX11_aboutGroup_79 : decode cX11_aboutGroup 79 = .ok (.ifCond .eq 7, 3) := by decide +kernel
theorem dX11_aboutGroup_82 : decode cX11_aboutGroup 82 = .ok (.iconst 1, 1) := by decide +kernel
theorem dX11_aboutGroup_83 : decode cX11_aboutGroup 83 = .ok (.goto 4, 3) := by decide +kernel
theorem dX11_aboutGroup_86 : decode cX11_aboutGroup 86 = .ok (.iconst 0, 1) := by decide +kernel
theorem dX11_aboutGroup_87 : decode cX11_aboutGroup 87 = .ok (.ireturn, 1) := by decide +kernel
theorem dX11_aboutGroup_88 : decode cX11_aboutGroup 88 = .ok (.iconst (-1), 1) := by decide +kernel
theorem dX11_aboutGroup_89 : decode cX11_aboutGroup 89 = .ok (.ireturn, 1) := by decide +kernel
theorem dX11_isFrom_0 : decode cX11_isFrom 0 = .ok (.iload_n 2, 1) := by decide +kernel
theorem dX11_isFrom_1 : decode cX11_isFrom 1 = .ok (.iload_n 0, 1) := by decide +kernel
theorem dX11_isFrom_2 : decode cX11_isFrom 2 = .ok (.if_icmp .lt 12, 3) := by decide +kernel
theorem dX11_isFrom_5 : decode cX11_isFrom 5 = .ok (.iload_n 2, 1) := by decide +kernel
theorem dX11_isFrom_6 : decode cX11_isFrom 6 = .ok (.iload_n 1, 1) := by decide +kernel
theorem dX11_isFrom_7 : decode cX11_isFrom 7 = .ok (.if_icmp .gt 7, 3) := by decide +kernel
theorem dX11_isFrom_10 : decode cX11_isFrom 10 = .ok (.iconst 1, 1) := by decide +kernel
theorem dX11_isFrom_11 : decode cX11_isFrom 11 = .ok (.goto 4, 3) := by decide +kernel
theorem dX11_isFrom_14 : decode cX11_isFrom 14 = .ok (.iconst 0, 1) := by decide +kernel
theorem dX11_isFrom_15 : decode cX11_isFrom 15 = .ok (.ireturn, 1) := by decide +kernel
theorem dX11_isTick_0 : decode cX11_isTick 0 = .ok (.iconst 0, 1) := by decide +kernel
theorem dX11_isTick_1 : decode cX11_isTick 1 = .ok (.sipush 999, 3) := by decide +kernel
theorem dX11_isTick_4 : decode cX11_isTick 4 = .ok (.iload_n 0, 1) := by decide +kernel
theorem dX11_isTick_5 : decode cX11_isTick 5 = .ok (.invokestatic 60, 3) := by decide +kernel
theorem dX11_isTick_8 : decode cX11_isTick 8 = .ok (.ireturn, 1) := by decide +kernel
theorem dX11_shapeOf_0 : decode cX11_shapeOf 0 = .ok (.iload_n 0, 1) := by decide +kernel
theorem dX11_shapeOf_1 : decode cX11_shapeOf 1 = .ok (.ifCond .ne 5, 3) := by decide +kernel
theorem dX11_shapeOf_4 : decode cX11_shapeOf 4 = .ok (.iconst 0, 1) := by decide +kernel
theorem dX11_shapeOf_5 : decode cX11_shapeOf 5 = .ok (.ireturn, 1) := by decide +kernel
theorem dX11_shapeOf_6 : decode cX11_shapeOf 6 = .ok (.iload_n 1, 1) := by decide +kernel
theorem dX11_shapeOf_7 : decode cX11_shapeOf 7 = .ok (.iload_n 2, 1) := by decide +kernel
theorem dX11_shapeOf_8 : decode cX11_shapeOf 8 = .ok (.if_icmp .ge 7, 3) := by decide +kernel
theorem dX11_shapeOf_11 : decode cX11_shapeOf 11 = .ok (.iload_n 1, 1) := by decide +kernel
theorem dX11_shapeOf_12 : decode cX11_shapeOf 12 = .ok (.goto 4, 3) := by decide +kernel
theorem dX11_shapeOf_15 : decode cX11_shapeOf 15 = .ok (.iload_n 2, 1) := by decide +kernel
theorem dX11_shapeOf_16 : decode cX11_shapeOf 16 = .ok (.istore_n 3, 1) := by decide +kernel
theorem dX11_shapeOf_17 : decode cX11_shapeOf 17 = .ok (.iload_n 1, 1) := by decide +kernel
theorem dX11_shapeOf_18 : decode cX11_shapeOf 18 = .ok (.iload_n 2, 1) := by decide +kernel
theorem dX11_shapeOf_19 : decode cX11_shapeOf 19 = .ok (.if_icmp .ge 7, 3) := by decide +kernel
theorem dX11_shapeOf_22 : decode cX11_shapeOf 22 = .ok (.iload_n 2, 1) := by decide +kernel
theorem dX11_shapeOf_23 : decode cX11_shapeOf 23 = .ok (.goto 4, 3) := by decide +kernel
theorem dX11_shapeOf_26 : decode cX11_shapeOf 26 = .ok (.iload_n 1, 1) := by decide +kernel
theorem dX11_shapeOf_27 : decode cX11_shapeOf 27 = .ok (.istore 4, 2) := by decide +kernel
theorem dX11_shapeOf_29 : decode cX11_shapeOf 29 = .ok (.iload_n 3, 1) := by decide +kernel
theorem dX11_shapeOf_30 : decode cX11_shapeOf 30 = .ok (.ifCond .gt 8, 3) := by decide +kernel
theorem dX11_shapeOf_33 : decode cX11_shapeOf 33 = .ok (.ldc 238, 2) := by decide +kernel
theorem dX11_shapeOf_35 : decode cX11_shapeOf 35 = .ok (.goto 11, 3) := by decide +kernel
theorem dX11_shapeOf_38 : decode cX11_shapeOf 38 = .ok (.iload 4, 2) := by decide +kernel
theorem dX11_shapeOf_40 : decode cX11_shapeOf 40 = .ok (.sipush 1000, 3) := by decide +kernel
theorem dX11_shapeOf_43 : decode cX11_shapeOf 43 = .ok (.imul, 1) := by decide +kernel
theorem dX11_shapeOf_44 : decode cX11_shapeOf 44 = .ok (.iload_n 3, 1) := by decide +kernel
theorem dX11_shapeOf_45 : decode cX11_shapeOf 45 = .ok (.idiv, 1) := by decide +kernel
theorem dX11_shapeOf_46 : decode cX11_shapeOf 46 = .ok (.ireturn, 1) := by decide +kernel
theorem dX11_share_0 : decode cX11_share 0 = .ok (.iload_n 2, 1) := by decide +kernel
theorem dX11_share_1 : decode cX11_share 1 = .ok (.ifCond .gt 7, 3) := by decide +kernel
theorem dX11_share_4 : decode cX11_share 4 = .ok (.iconst 0, 1) := by decide +kernel
theorem dX11_share_5 : decode cX11_share 5 = .ok (.goto 12, 3) := by decide +kernel
theorem dX11_share_8 : decode cX11_share 8 = .ok (.iload_n 0, 1) := by decide +kernel
theorem dX11_share_9 : decode cX11_share 9 = .ok (.i2l, 1) := by decide +kernel
theorem dX11_share_10 : decode cX11_share 10 = .ok (.iload_n 1, 1) := by decide +kernel
theorem dX11_share_11 : decode cX11_share 11 = .ok (.i2l, 1) := by decide +kernel
theorem dX11_share_12 : decode cX11_share 12 = .ok (.lmul, 1) := by decide +kernel
theorem dX11_share_13 : decode cX11_share 13 = .ok (.iload_n 2, 1) := by decide +kernel
theorem dX11_share_14 : decode cX11_share 14 = .ok (.i2l, 1) := by decide +kernel
theorem dX11_share_15 : decode cX11_share 15 = .ok (.ldiv, 1) := by decide +kernel
theorem dX11_share_16 : decode cX11_share 16 = .ok (.l2i, 1) := by decide +kernel
theorem dX11_share_17 : decode cX11_share 17 = .ok (.ireturn, 1) := by decide +kernel

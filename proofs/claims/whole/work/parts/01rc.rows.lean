theorem dX12_drawGroup_325 : decode cX12_drawGroup 325 = .ok (.iload 10, 2) := by decide +kernel
theorem dX12_drawGroup_327 : decode cX12_drawGroup 327 = .ok (.aload_n 0, 1) := by decide +kernel
theorem dX12_drawGroup_328 : decode cX12_drawGroup 328 = .ok (.getfield 85, 3) := by decide +kernel
theorem dX12_drawGroup_331 : decode cX12_drawGroup 331 = .ok (.iload 9, 2) := by decide +kernel
theorem dX12_drawGroup_333 : decode cX12_drawGroup 333 = .ok (.iaload, 1) := by decide +kernel
theorem dX12_drawGroup_334 : decode cX12_drawGroup 334 = .ok (.iastore, 1) := by decide +kernel
theorem dX12_drawGroup_335 : decode cX12_drawGroup 335 = .ok (.iinc 9 1, 3) := by decide +kernel
theorem dX12_drawGroup_338 : decode cX12_drawGroup 338 = .ok (.goto (-153), 3) := by decide +kernel
theorem dX12_drawGroup_341 : decode cX12_drawGroup 341 = .ok (.return_, 1) := by decide +kernel
theorem dX12_draw_0 : decode cX12_draw 0 = .ok (.aload_n 0, 1) := by decide +kernel
theorem dX12_draw_1 : decode cX12_draw 1 = .ok (.iconst 0, 1) := by decide +kernel
theorem dX12_draw_2 : decode cX12_draw 2 = .ok (.putfield 1, 3) := by decide +kernel
theorem dX12_draw_5 : decode cX12_draw 5 = .ok (.aload_n 0, 1) := by decide +kernel
theorem dX12_draw_6 : decode cX12_draw 6 = .ok (.getfield 243, 3) := by decide +kernel
theorem dX12_draw_9 : decode cX12_draw 9 = .ok (.ifCond .eq 14, 3) := by decide +kernel
theorem dX12_draw_12 : decode cX12_draw 12 = .ok (.iload_n 1, 1) := by decide +kernel
theorem dX12_draw_13 : decode cX12_draw 13 = .ok (.iconst 0, 1) := by decide +kernel
theorem dX12_draw_14 : decode cX12_draw 14 = .ok (.sipush 999, 3) := by decide +kernel
theorem dX12_draw_17 : decode cX12_draw 17 = .ok (.invokestatic 142, 3) := by decide +kernel
theorem dX12_draw_20 : decode cX12_draw 20 = .ok (.ifCond .ne 5, 3) := by decide +kernel
theorem dX12_draw_23 : decode cX12_draw 23 = .ok (.iconst (-1), 1) := by decide +kernel
theorem dX12_draw_24 : decode cX12_draw 24 = .ok (.ireturn, 1) := by decide +kernel
theorem dX12_draw_25 : decode cX12_draw 25 = .ok (.aload_n 0, 1) := by decide +kernel
theorem dX12_draw_26 : decode cX12_draw 26 = .ok (.getfield 249, 3) := by decide +kernel
theorem dX12_draw_29 : decode cX12_draw 29 = .ok (.invokestatic 332, 3) := by decide +kernel
theorem dX12_draw_32 : decode cX12_draw 32 = .ok (.istore_n 2, 1) := by decide +kernel
theorem dX12_draw_33 : decode cX12_draw 33 = .ok (.aload_n 0, 1) := by decide +kernel
theorem dX12_draw_34 : decode cX12_draw 34 = .ok (.getfield 97, 3) := by decide +kernel
theorem dX12_draw_37 : decode cX12_draw 37 = .ok (.aload_n 0, 1) := by decide +kernel
theorem dX12_draw_38 : decode cX12_draw 38 = .ok (.getfield 249, 3) := by decide +kernel
theorem dX12_draw_41 : decode cX12_draw 41 = .ok (.bipush 51, 2) := by decide +kernel
theorem dX12_draw_43 : decode cX12_draw 43 = .ok (.irem, 1) := by decide +kernel
theorem dX12_draw_44 : decode cX12_draw 44 = .ok (.iload_n 1, 1) := by decide +kernel
theorem dX12_draw_45 : decode cX12_draw 45 = .ok (.iastore, 1) := by decide +kernel
theorem dX12_draw_46 : decode cX12_draw 46 = .ok (.iconst 0, 1) := by decide +kernel
theorem dX12_draw_47 : decode cX12_draw 47 = .ok (.istore_n 3, 1) := by decide +kernel
theorem dX12_draw_48 : decode cX12_draw 48 = .ok (.iload_n 3, 1) := by decide +kernel
theorem dX12_draw_49 : decode cX12_draw 49 = .ok (.aload_n 0, 1) := by decide +kernel
theorem dX12_draw_50 : decode cX12_draw 50 = .ok (.getfield 243, 3) := by decide +kernel
theorem dX12_draw_53 : decode cX12_draw 53 = .ok (.if_icmp .ge 40, 3) := by decide +kernel
theorem dX12_draw_56 : decode cX12_draw 56 = .ok (.aload_n 0, 1) := by decide +kernel
theorem dX12_draw_57 : decode cX12_draw 57 = .ok (.getfield 100, 3) := by decide +kernel
theorem dX12_draw_60 : decode cX12_draw 60 = .ok (.iload_n 2, 1) := by decide +kernel
theorem dX12_draw_61 : decode cX12_draw 61 = .ok (.iload_n 3, 1) := by decide +kernel
theorem dX12_draw_62 : decode cX12_draw 62 = .ok (.iadd, 1) := by decide +kernel
theorem dX12_draw_63 : decode cX12_draw 63 = .ok (.iload_n 3, 1) := by decide +kernel
theorem dX12_draw_64 : decode cX12_draw 64 = .ok (.ifCond .ne 7, 3) := by decide +kernel
theorem dX12_draw_67 : decode cX12_draw 67 = .ok (.iconst 1, 1) := by decide +kernel
theorem dX12_draw_68 : decode cX12_draw 68 = .ok (.goto 4, 3) := by decide +kernel
theorem dX12_draw_71 : decode cX12_draw 71 = .ok (.iconst 0, 1) := by decide +kernel
theorem dX12_draw_72 : decode cX12_draw 72 = .ok (.bastore, 1) := by decide +kernel
theorem dX12_draw_73 : decode cX12_draw 73 = .ok (.aload_n 0, 1) := by decide +kernel
theorem dX12_draw_74 : decode cX12_draw 74 = .ok (.getfield 115, 3) := by decide +kernel
theorem dX12_draw_77 : decode cX12_draw 77 = .ok (.iload_n 2, 1) := by decide +kernel
theorem dX12_draw_78 : decode cX12_draw 78 = .ok (.iload_n 3, 1) := by decide +kernel
theorem dX12_draw_79 : decode cX12_draw 79 = .ok (.iadd, 1) := by decide +kernel
theorem dX12_draw_80 : decode cX12_draw 80 = .ok (.aload_n 0, 1) := by decide +kernel
theorem dX12_draw_81 : decode cX12_draw 81 = .ok (.iload_n 3, 1) := by decide +kernel
theorem dX12_draw_82 : decode cX12_draw 82 = .ok (.iload_n 1, 1) := by decide +kernel
theorem dX12_draw_83 : decode cX12_draw 83 = .ok (.invokevirtual 256, 3) := by decide +kernel
theorem dX12_draw_86 : decode cX12_draw 86 = .ok (.iastore, 1) := by decide +kernel
theorem dX12_draw_87 : decode cX12_draw 87 = .ok (.iinc 3 1, 3) := by decide +kernel
theorem dX12_draw_90 : decode cX12_draw 90 = .ok (.goto (-42), 3) := by decide +kernel
theorem dX12_draw_93 : decode cX12_draw 93 = .ok (.aload_n 0, 1) := by decide +kernel
theorem dX12_draw_94 : decode cX12_draw 94 = .ok (.getfield 103, 3) := by decide +kernel
theorem dX12_draw_97 : decode cX12_draw 97 = .ok (.iload_n 2, 1) := by decide +kernel
theorem dX12_draw_98 : decode cX12_draw 98 = .ok (.iconst 0, 1) := by decide +kernel
theorem dX12_draw_99 : decode cX12_draw 99 = .ok (.iastore, 1) := by decide +kernel
theorem dX12_draw_100 : decode cX12_draw 100 = .ok (.aload_n 0, 1) := by decide +kernel
theorem dX12_draw_101 : decode cX12_draw 101 = .ok (.getfield 106, 3) := by decide +kernel
theorem dX12_draw_104 : decode cX12_draw 104 = .ok (.iload_n 2, 1) := by decide +kernel
theorem dX12_draw_105 : decode cX12_draw 105 = .ok (.iconst 0, 1) := by decide +kernel
theorem dX12_draw_106 : decode cX12_draw 106 = .ok (.iastore, 1) := by decide +kernel
theorem dX12_draw_107 : decode cX12_draw 107 = .ok (.aload_n 0, 1) := by decide +kernel
theorem dX12_draw_108 : decode cX12_draw 108 = .ok (.getfield 109, 3) := by decide +kernel
theorem dX12_draw_111 : decode cX12_draw 111 = .ok (.iload_n 2, 1) := by decide +kernel
theorem dX12_draw_112 : decode cX12_draw 112 = .ok (.aload_n 0, 1) := by decide +kernel
theorem dX12_draw_113 : decode cX12_draw 113 = .ok (.getfield 13, 3) := by decide +kernel
theorem dX12_draw_116 : decode cX12_draw 116 = .ok (.iastore, 1) := by decide +kernel
theorem dX12_draw_117 : decode cX12_draw 117 = .ok (.aload_n 0, 1) := by decide +kernel
theorem dX12_draw_118 : decode cX12_draw 118 = .ok (.getfield 112, 3) := by decide +kernel
theorem dX12_draw_121 : decode cX12_draw 121 = .ok (.iload_n 2, 1) := by decide +kernel
theorem dX12_draw_122 : decode cX12_draw 122 = .ok (.aload_n 0, 1) := by decide +kernel
theorem dX12_draw_123 : decode cX12_draw 123 = .ok (.getfield 16, 3) := by decide +kernel
theorem dX12_draw_126 : decode cX12_draw 126 = .ok (.iastore, 1) := by decide +kernel
theorem dX12_draw_127 : decode cX12_draw 127 = .ok (.iconst 0, 1) := by decide +kernel
theorem dX12_draw_128 : decode cX12_draw 128 = .ok (.istore_n 3, 1) := by decide +kernel
theorem dX12_draw_129 : decode cX12_draw 129 = .ok (.iload_n 3, 1) := by decide +kernel
theorem dX12_draw_130 : decode cX12_draw 130 = .ok (.aload_n 0, 1) := by decide +kernel
theorem dX12_draw_131 : decode cX12_draw 131 = .ok (.getfield 243, 3) := by decide +kernel
theorem dX12_draw_134 : decode cX12_draw 134 = .ok (.if_icmp .ge 25, 3) := by decide +kernel
theorem dX12_draw_137 : decode cX12_draw 137 = .ok (.aload_n 0, 1) := by decide +kernel
theorem dX12_draw_138 : decode cX12_draw 138 = .ok (.getfield 30, 3) := by decide +kernel
theorem dX12_draw_141 : decode cX12_draw 141 = .ok (.iload_n 3, 1) := by decide +kernel
theorem dX12_draw_142 : decode cX12_draw 142 = .ok (.baload, 1) := by decide +kernel
theorem dX12_draw_143 : decode cX12_draw 143 = .ok (.ifCond .eq 10, 3) := by decide +kernel
theorem dX12_draw_146 : decode cX12_draw 146 = .ok (.aload_n 0, 1) := by decide +kernel
theorem dX12_draw_147 : decode cX12_draw 147 = .ok (.iload_n 3, 1) := by decide +kernel
theorem dX12_draw_148 : decode cX12_draw 148 = .ok (.iload_n 2, 1) := by decide +kernel
theorem dX12_draw_149 : decode cX12_draw 149 = .ok (.iload_n 1, 1) := by decide +kernel
theorem dX12_draw_150 : decode cX12_draw 150 = .ok (.invokevirtual 352, 3) := by decide +kernel
theorem dX12_draw_153 : decode cX12_draw 153 = .ok (.iinc 3 1, 3) := by decide +kernel
theorem dX12_draw_156 : decode cX12_draw 156 = .ok (.goto (-27), 3) := by decide +kernel
theorem dX12_draw_159 : decode cX12_draw 159 = .ok (.aload_n 0, 1) := by decide +kernel
theorem dX12_draw_160 : decode cX12_draw 160 = .ok (.dup, 1) := by decide +kernel
theorem dX12_draw_161 : decode cX12_draw 161 = .ok (.getfield 249, 3) := by decide +kernel
theorem dX12_draw_164 : decode cX12_draw 164 = .ok (.iconst 1, 1) := by decide +kernel
theorem dX12_draw_165 : decode cX12_draw 165 = .ok (.iadd, 1) := by decide +kernel
theorem dX12_draw_166 : decode cX12_draw 166 = .ok (.putfield 249, 3) := by decide +kernel
theorem dX12_draw_169 : decode cX12_draw 169 = .ok (.aload_n 0, 1) := by decide +kernel
theorem dX12_draw_170 : decode cX12_draw 170 = .ok (.getfield 249, 3) := by decide +kernel
theorem dX12_draw_173 : decode cX12_draw 173 = .ok (.iconst 1, 1) := by decide +kernel
theorem dX12_draw_174 : decode cX12_draw 174 = .ok (.isub, 1) := by decide +kernel
theorem dX12_draw_175 : decode cX12_draw 175 = .ok (.ireturn, 1) := by decide +kernel
theorem dX12_isDrawn_0 : decode cX12_isDrawn 0 = .ok (.aload_n 0, 1) := by decide +kernel
theorem dX12_isDrawn_1 : decode cX12_isDrawn 1 = .ok (.getfield 249, 3) := by decide +kernel
theorem dX12_isDrawn_4 : decode cX12_isDrawn 4 = .ok (.ifCond .le 15, 3) := by decide +kernel
theorem dX12_isDrawn_7 : decode cX12_isDrawn 7 = .ok (.aload_n 0, 1) := by decide +kernel
theorem dX12_isDrawn_8 : decode cX12_isDrawn 8 = .ok (.iload_n 1, 1) := by decide +kernel
theorem dX12_isDrawn_9 : decode cX12_isDrawn 9 = .ok (.invokevirtual 252, 3) := by decide +kernel
theorem dX12_isDrawn_12 : decode cX12_isDrawn 12 = .ok (.ifCond .eq 7, 3) := by decide +kernel
theorem dX12_isDrawn_15 : decode cX12_isDrawn 15 = .ok (.iconst 1, 1) := by decide +kernel
theorem dX12_isDrawn_16 : decode cX12_isDrawn 16 = .ok (.goto 4, 3) := by decide +kernel
theorem dX12_isDrawn_19 : decode cX12_isDrawn 19 = .ok (.iconst 0, 1) := by decide +kernel
theorem dX12_isDrawn_20 : decode cX12_isDrawn 20 = .ok (.ireturn, 1) := by decide +kernel
theorem dX12_box_0 : decode cX12_box 0 = .ok (.aload_n 0, 1) := by decide +kernel
theorem dX12_box_1 : decode cX12_box 1 = .ok (.iconst 0, 1) := by decide +kernel
theorem dX12_box_2 : decode cX12_box 2 = .ok (.putfield 1, 3) := by decide +kernel
theorem dX12_box_5 : decode cX12_box 5 = .ok (.aload_n 0, 1) := by decide +kernel
theorem dX12_box_6 : decode cX12_box 6 = .ok (.iload_n 1, 1) := by decide +kernel
theorem dX12_box_7 : decode cX12_box 7 = .ok (.invokevirtual 355, 3) := by decide +kernel
theorem dX12_box_10 : decode cX12_box 10 = .ok (.ifCond .ne 5, 3) := by decide +kernel
theorem dX12_box_13 : decode cX12_box 13 = .ok (.iconst (-1), 1) := by decide +kernel
theorem dX12_box_14 : decode cX12_box 14 = .ok (.ireturn, 1) := by decide +kernel
theorem dX12_box_15 : decode cX12_box 15 = .ok (.aload_n 0, 1) := by decide +kernel
theorem dX12_box_16 : decode cX12_box 16 = .ok (.getfield 249, 3) := by decide +kernel
theorem dX12_box_19 : decode cX12_box 19 = .ok (.iconst 1, 1) := by decide +kernel
theorem dX12_box_20 : decode cX12_box 20 = .ok (.isub, 1) := by decide +kernel
theorem dX12_box_21 : decode cX12_box 21 = .ok (.invokestatic 332, 3) := by decide +kernel
theorem dX12_box_24 : decode cX12_box 24 = .ok (.iload_n 1, 1) := by decide +kernel
theorem dX12_box_25 : decode cX12_box 25 = .ok (.iadd, 1) := by decide +kernel
theorem dX12_box_26 : decode cX12_box 26 = .ok (.istore_n 3, 1) := by decide +kernel
theorem dX12_box_27 : decode cX12_box 27 = .ok (.iload_n 2, 1) := by decide +kernel
theorem dX12_box_28 : decode cX12_box 28 = .ok (.iconst 4, 1) := by decide +kernel
theorem dX12_box_29 : decode cX12_box 29 = .ok (.if_icmp .ne 10, 3) := by decide +kernel
theorem dX12_box_32 : decode cX12_box 32 = .ok (.aload_n 0, 1) := by decide +kernel
theorem dX12_box_33 : decode cX12_box 33 = .ok (.getfield 115, 3) := by decide +kernel
theorem dX12_box_36 : decode cX12_box 36 = .ok (.iload_n 3, 1) := by decide +kernel
theorem dX12_box_37 : decode cX12_box 37 = .ok (.iaload, 1) := by decide +kernel
theorem dX12_box_38 : decode cX12_box 38 = .ok (.ireturn, 1) := by decide +kernel
theorem dX12_box_39 : decode cX12_box 39 = .ok (.aload_n 0, 1) := by decide +kernel
theorem dX12_box_40 : decode cX12_box 40 = .ok (.getfield 100, 3) := by decide +kernel
theorem dX12_box_43 : decode cX12_box 43 = .ok (.iload_n 3, 1) := by decide +kernel
theorem dX12_box_44 : decode cX12_box 44 = .ok (.baload, 1) := by decide +kernel
theorem dX12_box_45 : decode cX12_box 45 = .ok (.ifCond .eq 17, 3) := by decide +kernel
theorem dX12_box_48 : decode cX12_box 48 = .ok (.iload_n 2, 1) := by decide +kernel
theorem dX12_box_49 : decode cX12_box 49 = .ok (.iconst 5, 1) := by decide +kernel
theorem dX12_box_50 : decode cX12_box 50 = .ok (.if_icmp .le 14, 3) := by decide +kernel
theorem dX12_box_53 : decode cX12_box 53 = .ok (.aload_n 0, 1) := by decide +kernel
theorem dX12_box_54 : decode cX12_box 54 = .ok (.getfield 30, 3) := by decide +kernel
theorem dX12_box_57 : decode cX12_box 57 = .ok (.iload_n 1, 1) := by decide +kernel
theorem dX12_box_58 : decode cX12_box 58 = .ok (.baload, 1) := by decide +kernel
theorem dX12_box_59 : decode cX12_box 59 = .ok (.ifCond .ne 5, 3) := by decide +kernel
theorem dX12_box_62 : decode cX12_box 62 = .ok (.iconst (-1), 1) := by decide +kernel
theorem dX12_box_63 : decode cX12_box 63 = .ok (.ireturn, 1) := by decide +kernel
theorem dX12_box_64 : decode cX12_box 64 = .ok (.iload_n 2, 1) := by decide +kernel
theorem dX12_box_65 : decode cX12_box 65 = .ok (.tableswitch 111 0 7 #[47, 54, 61, 68, 111, 75, 97, 104], 47) := by decide +kernel
theorem dX12_box_112 : decode cX12_box 112 = .ok (.aload_n 0, 1) := by decide +kernel
theorem dX12_box_113 : decode cX12_box 113 = .ok (.getfield 103, 3) := by decide +kernel
theorem dX12_box_116 : decode cX12_box 116 = .ok (.iload_n 3, 1) := by decide +kernel
theorem dX12_box_117 : decode cX12_box 117 = .ok (.iaload, 1) := by decide +kernel
theorem dX12_box_118 : decode cX12_box 118 = .ok (.ireturn, 1) := by decide +kernel
theorem dX12_box_119 : decode cX12_box 119 = .ok (.aload_n 0, 1) := by decide +kernel
theorem dX12_box_120 : decode cX12_box 120 = .ok (.getfield 106, 3) := by decide +kernel
theorem dX12_box_123 : decode cX12_box 123 = .ok (.iload_n 3, 1) := by decide +kernel
theorem dX12_box_124 : decode cX12_box 124 = .ok (.iaload, 1) := by decide +kernel
theorem dX12_box_125 : decode cX12_box 125 = .ok (.ireturn, 1) := by decide +kernel
theorem dX12_box_126 : decode cX12_box 126 = .ok (.aload_n 0, 1) := by decide +kernel
theorem dX12_box_127 : decode cX12_box 127 = .ok (.getfield 109, 3) := by decide +kernel
theorem dX12_box_130 : decode cX12_box 130 = .ok (.iload_n 3, 1) := by decide +kernel
theorem dX12_box_131 : decode cX12_box 131 = .ok (.iaload, 1) := by decide +kernel
theorem dX12_box_132 : decode cX12_box 132 = .ok (.ireturn, 1) := by decide +kernel
theorem dX12_box_133 : decode cX12_box 133 = .ok (.aload_n 0, 1) := by decide +kernel
theorem dX12_box_134 : decode cX12_box 134 = .ok (.getfield 112, 3) := by decide +kernel
theorem dX12_box_137 : decode cX12_box 137 = .ok (.iload_n 3, 1) := by decide +kernel
theorem dX12_box_138 : decode cX12_box 138 = .ok (.iaload, 1) := by decide +kernel
theorem dX12_box_139 : decode cX12_box 139 = .ok (.ireturn, 1) := by decide +kernel
theorem dX12_box_140 : decode cX12_box 140 = .ok (.aload_n 0, 1) := by decide +kernel
theorem dX12_box_141 : decode cX12_box 141 = .ok (.getfield 115, 3) := by decide +kernel
theorem dX12_box_144 : decode cX12_box 144 = .ok (.iload_n 3, 1) := by decide +kernel
theorem dX12_box_145 : decode cX12_box 145 = .ok (.iaload, 1) := by decide +kernel
theorem dX12_box_146 : decode cX12_box 146 = .ok (.aload_n 0, 1) := by decide +kernel
theorem dX12_box_147 : decode cX12_box 147 = .ok (.getfield 109, 3) := by decide +kernel
theorem dX12_box_150 : decode cX12_box 150 = .ok (.iload_n 3, 1) := by decide +kernel
theorem dX12_box_151 : decode cX12_box 151 = .ok (.iaload, 1) := by decide +kernel
theorem dX12_box_152 : decode cX12_box 152 = .ok (.aload_n 0, 1) := by decide +kernel
theorem dX12_box_153 : decode cX12_box 153 = .ok (.getfield 112, 3) := by decide +kernel
theorem dX12_box_156 : decode cX12_box 156 = .ok (.iload_n 3, 1) := by decide +kernel
theorem dX12_box_157 : decode cX12_box 157 = .ok (.iaload, 1) := by decide +kernel
theorem dX12_box_158 : decode cX12_box 158 = .ok (.invokestatic 264, 3) := by decide +kernel
theorem dX12_box_161 : decode cX12_box 161 = .ok (.ireturn, 1) := by decide +kernel
theorem dX12_box_162 : decode cX12_box 162 = .ok (.aload_n 0, 1) := by decide +kernel
theorem dX12_box_163 : decode cX12_box 163 = .ok (.getfield 118, 3) := by decide +kernel
theorem dX12_box_166 : decode cX12_box 166 = .ok (.iload_n 1, 1) := by decide +kernel
theorem dX12_box_167 : decode cX12_box 167 = .ok (.iaload, 1) := by decide +kernel
theorem dX12_box_168 : decode cX12_box 168 = .ok (.ireturn, 1) := by decide +kernel
theorem dX12_box_169 : decode cX12_box 169 = .ok (.aload_n 0, 1) := by decide +kernel
theorem dX12_box_170 : decode cX12_box 170 = .ok (.getfield 121, 3) := by decide +kernel
theorem dX12_box_173 : decode cX12_box 173 = .ok (.iload_n 1, 1) := by decide +kernel
theorem dX12_box_174 : decode cX12_box 174 = .ok (.iaload, 1) := by decide +kernel
theorem dX12_box_175 : decode cX12_box 175 = .ok (.ireturn, 1) := by decide +kernel
theorem dX12_box_176 : decode cX12_box 176 = .ok (.iconst (-1), 1) := by decide +kernel
theorem dX12_box_177 : decode cX12_box 177 = .ok (.ireturn, 1) := by decide +kernel
theorem dX12_restOf_0 : decode cX12_restOf 0 = .ok (.aload_n 0, 1) := by decide +kernel
theorem dX12_restOf_1 : decode cX12_restOf 1 = .ok (.iconst 0, 1) := by decide +kernel
theorem dX12_restOf_2 : decode cX12_restOf 2 = .ok (.putfield 1, 3) := by decide +kernel
theorem dX12_restOf_5 : decode cX12_restOf 5 = .ok (.aload_n 0, 1) := by decide +kernel
theorem dX12_restOf_6 : decode cX12_restOf 6 = .ok (.iload_n 1, 1) := by decide +kernel
theorem dX12_restOf_7 : decode cX12_restOf 7 = .ok (.invokevirtual 355, 3) := by decide +kernel
theorem dX12_restOf_10 : decode cX12_restOf 10 = .ok (.ifCond .eq 21, 3) := by decide +kernel
theorem dX12_restOf_13 : decode cX12_restOf 13 = .ok (.aload_n 0, 1) := by decide +kernel
theorem dX12_restOf_14 : decode cX12_restOf 14 = .ok (.getfield 30, 3) := by decide +kernel
theorem dX12_restOf_17 : decode cX12_restOf 17 = .ok (.iload_n 1, 1) := by decide +kernel
theorem dX12_restOf_18 : decode cX12_restOf 18 = .ok (.baload, 1) := by decide +kernel
theorem dX12_restOf_19 : decode cX12_restOf 19 = .ok (.ifCond .eq 12, 3) := by decide +kernel
theorem dX12_restOf_22 : decode cX12_restOf 22 = .ok (.aload_n 0, 1) := by decide +kernel
theorem dX12_restOf_23 : decode cX12_restOf 23 = .ok (.getfield 124, 3) := by decide +kernel
theorem dX12_restOf_26 : decode cX12_restOf 26 = .ok (.iload_n 1, 1) := by decide +kernel
theorem dX12_restOf_27 : decode cX12_restOf 27 = .ok (.iaload, 1) := by decide +kernel
theorem dX12_restOf_28 : decode cX12_restOf 28 = .ok (.ifCond .ne 5, 3) := by decide +kernel
theorem dX12_restOf_31 : decode cX12_restOf 31 = .ok (.iconst (-1), 1) := by decide +kernel
theorem dX12_restOf_32 : decode cX12_restOf 32 = .ok (.ireturn, 1) := by decide +kernel
theorem dX12_restOf_33 : decode cX12_restOf 33 = .ok (.iload_n 2, 1) := by decide +kernel
theorem dX12_restOf_34 : decode cX12_restOf 34 = .ok (.tableswitch 106 0 6 #[42, 49, 56, 63, 70, 77, 99], 42) := by decide +kernel
theorem dX12_restOf_76 : decode cX12_restOf 76 = .ok (.aload_n 0, 1) := by decide +kernel
theorem dX12_restOf_77 : decode cX12_restOf 77 = .ok (.getfield 130, 3) := by decide +kernel
theorem dX12_restOf_80 : decode cX12_restOf 80 = .ok (.iload_n 1, 1) := by decide +kernel
theorem dX12_restOf_81 : decode cX12_restOf 81 = .ok (.iaload, 1) := by decide +kernel
theorem dX12_restOf_82 : decode cX12_restOf 82 = .ok (.ireturn, 1) := by decide +kernel
theorem dX12_restOf_83 : decode cX12_restOf 83 = .ok (.aload_n 0, 1) := by decide +kernel
theorem dX12_restOf_84 : decode cX12_restOf 84 = .ok (.getfield 133, 3) := by decide +kernel
theorem dX12_restOf_87 : decode cX12_restOf 87 = .ok (.iload_n 1, 1) := by decide +kernel
theorem dX12_restOf_88 : decode cX12_restOf 88 = .ok (.iaload, 1) := by decide +kernel
theorem dX12_restOf_89 : decode cX12_restOf 89 = .ok (.ireturn, 1) := by decide +kernel
theorem dX12_restOf_90 : decode cX12_restOf 90 = .ok (.aload_n 0, 1) := by decide +kernel
theorem dX12_restOf_91 : decode cX12_restOf 91 = .ok (.getfield 136, 3) := by decide +kernel
theorem dX12_restOf_94 : decode cX12_restOf 94 = .ok (.iload_n 1, 1) := by decide +kernel
theorem dX12_restOf_95 : decode cX12_restOf 95 = .ok (.iaload, 1) := by decide +kernel
theorem dX12_restOf_96 : decode cX12_restOf 96 = .ok (.ireturn, 1) := by decide +kernel
theorem dX12_restOf_97 : decode cX12_restOf 97 = .ok (.aload_n 0, 1) := by decide +kernel
theorem dX12_restOf_98 : decode cX12_restOf 98 = .ok (.getfield 139, 3) := by decide +kernel
theorem dX12_restOf_101 : decode cX12_restOf 101 = .ok (.iload_n 1, 1) := by decide +kernel
theorem dX12_restOf_102 : decode cX12_restOf 102 = .ok (.iaload, 1) := by decide +kernel
theorem dX12_restOf_103 : decode cX12_restOf 103 = .ok (.ireturn, 1) := by decide +kernel
theorem dX12_restOf_104 : decode cX12_restOf 104 = .ok (.aload_n 0, 1) := by decide +kernel
theorem dX12_restOf_105 : decode cX12_restOf 105 = .ok (.getfield 127, 3) := by decide +kernel
theorem dX12_restOf_108 : decode cX12_restOf 108 = .ok (.iload_n 1, 1) := by decide +kernel
theorem dX12_restOf_109 : decode cX12_restOf 109 = .ok (.iaload, 1) := by decide +kernel
theorem dX12_restOf_110 : decode cX12_restOf 110 = .ok (.ireturn, 1) := by decide +kernel
theorem dX12_restOf_111 : decode cX12_restOf 111 = .ok (.aload_n 0, 1) := by decide +kernel
theorem dX12_restOf_112 : decode cX12_restOf 112 = .ok (.getfield 127, 3) := by decide +kernel
theorem dX12_restOf_115 : decode cX12_restOf 115 = .ok (.iload_n 1, 1) := by decide +kernel
theorem dX12_restOf_116 : decode cX12_restOf 116 = .ok (.iaload, 1) := by decide +kernel
theorem dX12_restOf_117 : decode cX12_restOf 117 = .ok (.aload_n 0, 1) := by decide +kernel
theorem dX12_restOf_118 : decode cX12_restOf 118 = .ok (.getfield 136, 3) := by decide +kernel
theorem dX12_restOf_121 : decode cX12_restOf 121 = .ok (.iload_n 1, 1) := by decide +kernel
theorem dX12_restOf_122 : decode cX12_restOf 122 = .ok (.iaload, 1) := by decide +kernel
theorem dX12_restOf_123 : decode cX12_restOf 123 = .ok (.aload_n 0, 1) := by decide +kernel
theorem dX12_restOf_124 : decode cX12_restOf 124 = .ok (.getfield 139, 3) := by decide +kernel
theorem dX12_restOf_127 : decode cX12_restOf 127 = .ok (.iload_n 1, 1) := by decide +kernel
theorem dX12_restOf_128 : decode cX12_restOf 128 = .ok (.iaload, 1) := by decide +kernel
theorem dX12_restOf_129 : decode cX12_restOf 129 = .ok (.invokestatic 264, 3) := by decide +kernel
theorem dX12_restOf_132 : decode cX12_restOf 132 = .ok (.ireturn, 1) := by decide +kernel
theorem dX12_restOf_133 : decode cX12_restOf 133 = .ok (.aload_n 0, 1) := by decide +kernel
theorem dX12_restOf_134 : decode cX12_restOf 134 = .ok (.getfield 124, 3) := by decide +kernel
theorem dX12_restOf_137 : decode cX12_restOf 137 = .ok (.iload_n 1, 1) := by decide +kernel
theorem dX12_restOf_138 : decode cX12_restOf 138 = .ok (.iaload, 1) := by decide +kernel
theorem dX12_restOf_139 : decode cX12_restOf 139 = .ok (.ireturn, 1) := by decide +kernel
theorem dX12_restOf_140 : decode cX12_restOf 140 = .ok (.iconst (-1), 1) := by decide +kernel
theorem dX12_restOf_141 : decode cX12_restOf 141 = .ok (.ireturn, 1) := by decide +kernel
theorem dX12_isIn_0 : decode cX12_isIn 0 = .ok (.iload_n 0, 1) := by decide +kernel
theorem dX12_isIn_1 : decode cX12_isIn 1 = .ok (.iload_n 2, 1) := by decide +kernel
theorem dX12_isIn_2 : decode cX12_isIn 2 = .ok (.if_icmp .lt 28, 3) := by decide +kernel
theorem dX12_isIn_5 : decode cX12_isIn 5 = .ok (.iload_n 0, 1) := by decide +kernel
theorem dX12_isIn_6 : decode cX12_isIn 6 = .ok (.iload_n 2, 1) := by decide +kernel
theorem dX12_isIn_7 : decode cX12_isIn 7 = .ok (.iload 4, 2) := by decide +kernel
theorem dX12_isIn_9 : decode cX12_isIn 9 = .ok (.iadd, 1) := by decide +kernel
theorem dX12_isIn_10 : decode cX12_isIn 10 = .ok (.if_icmp .ge 20, 3) := by decide +kernel
theorem dX12_isIn_13 : decode cX12_isIn 13 = .ok (.iload_n 1, 1) := by decide +kernel
theorem dX12_isIn_14 : decode cX12_isIn 14 = .ok (.iload_n 3, 1) := by decide +kernel
theorem dX12_isIn_15 : decode cX12_isIn 15 = .ok (.if_icmp .lt 15, 3) := by decide +kernel
theorem dX12_isIn_18 : decode cX12_isIn 18 = .ok (.iload_n 1, 1) := by decide +kernel
theorem dX12_isIn_19 : decode cX12_isIn 19 = .ok (.iload_n 3, 1) := by decide +kernel
theorem dX12_isIn_20 : decode cX12_isIn 20 = .ok (.iload 5, 2) := by decide +kernel
theorem dX12_isIn_22 : decode cX12_isIn 22 = .ok (.iadd, 1) := by decide +kernel
theorem dX12_isIn_23 : decode cX12_isIn 23 = .ok (.if_icmp .ge 7, 3) := by decide +kernel
theorem dX12_isIn_26 : decode cX12_isIn 26 = .ok (.iconst 1, 1) := by decide +kernel
theorem dX12_isIn_27 : decode cX12_isIn 27 = .ok (.goto 4, 3) := by decide +kernel
theorem dX12_isIn_30 : decode cX12_isIn 30 = .ok (.iconst 0, 1) := by decide +kernel
theorem dX12_isIn_31 : decode cX12_isIn 31 = .ok (.ireturn, 1) := by decide +kernel
theorem dX12_under_0 : decode cX12_under 0 = .ok (.aload_n 0, 1) := by decide +kernel
theorem dX12_under_1 : decode cX12_under 1 = .ok (.iconst 0, 1) := by decide +kernel
theorem dX12_under_2 : decode cX12_under 2 = .ok (.putfield 1, 3) := by decide +kernel
theorem dX12_under_5 : decode cX12_under 5 = .ok (.aload_n 0, 1) := by decide +kernel
theorem dX12_under_6 : decode cX12_under 6 = .ok (.getfield 249, 3) := by decide +kernel
theorem dX12_under_9 : decode cX12_under 9 = .ok (.ifCond .ne 5, 3) := by decide +kernel
theorem dX12_under_12 : decode cX12_under 12 = .ok (.iconst (-1), 1) := by decide +kernel
theorem dX12_under_13 : decode cX12_under 13 = .ok (.ireturn, 1) := by decide +kernel
theorem dX12_under_14 : decode cX12_under 14 = .ok (.aload_n 0, 1) := by decide +kernel
theorem dX12_under_15 : decode cX12_under 15 = .ok (.getfield 249, 3) := by decide +kernel
theorem dX12_under_18 : decode cX12_under 18 = .ok (.iconst 1, 1) := by decide +kernel
theorem dX12_under_19 : decode cX12_under 19 = .ok (.isub, 1) := by decide +kernel
theorem dX12_under_20 : decode cX12_under 20 = .ok (.invokestatic 332, 3) := by decide +kernel
theorem dX12_under_23 : decode cX12_under 23 = .ok (.istore_n 3, 1) := by decide +kernel
theorem dX12_under_24 : decode cX12_under 24 = .ok (.iconst (-1), 1) := by decide +kernel
theorem dX12_under_25 : decode cX12_under 25 = .ok (.istore 4, 2) := by decide +kernel
theorem dX12_under_27 : decode cX12_under 27 = .ok (.iconst 0, 1) := by decide +kernel
theorem dX12_under_28 : decode cX12_under 28 = .ok (.istore 5, 2) := by decide +kernel
theorem dX12_under_30 : decode cX12_under 30 = .ok (.iload 5, 2) := by decide +kernel
theorem dX12_under_32 : decode cX12_under 32 = .ok (.aload_n 0, 1) := by decide +kernel
theorem dX12_under_33 : decode cX12_under 33 = .ok (.getfield 243, 3) := by decide +kernel
theorem dX12_under_36 : decode cX12_under 36 = .ok (.if_icmp .ge 65, 3) := by decide +kernel
theorem dX12_under_39 : decode cX12_under 39 = .ok (.iload_n 3, 1) := by decide +kernel
theorem dX12_under_40 : decode cX12_under 40 = .ok (.iload 5, 2) := by decide +kernel
theorem dX12_under_42 : decode cX12_under 42 = .ok (.iadd, 1) := by decide +kernel
theorem dX12_under_43 : decode cX12_under 43 = .ok (.istore 6, 2) := by decide +kernel
theorem dX12_under_45 : decode cX12_under 45 = .ok (.aload_n 0, 1) := by decide +kernel
theorem dX12_under_46 : decode cX12_under 46 = .ok (.getfield 100, 3) := by decide +kernel
theorem dX12_under_49 : decode cX12_under 49 = .ok (.iload 6, 2) := by decide +kernel
theorem dX12_under_51 : decode cX12_under 51 = .ok (.baload, 1) := by decide +kernel
theorem dX12_under_52 : decode cX12_under 52 = .ok (.ifCond .eq 43, 3) := by decide +kernel
theorem dX12_under_55 : decode cX12_under 55 = .ok (.iload_n 1, 1) := by decide +kernel
theorem dX12_under_56 : decode cX12_under 56 = .ok (.iload_n 2, 1) := by decide +kernel
theorem dX12_under_57 : decode cX12_under 57 = .ok (.aload_n 0, 1) := by decide +kernel
theorem dX12_under_58 : decode cX12_under 58 = .ok (.getfield 103, 3) := by decide +kernel
theorem dX12_under_61 : decode cX12_under 61 = .ok (.iload 6, 2) := by decide +kernel
theorem dX12_under_63 : decode cX12_under 63 = .ok (.iaload, 1) := by decide +kernel
theorem dX12_under_64 : decode cX12_under 64 = .ok (.aload_n 0, 1) := by decide +kernel
theorem dX12_under_65 : decode cX12_under 65 = .ok (.getfield 106, 3) := by decide +kernel
theorem dX12_under_68 : decode cX12_under 68 = .ok (.iload 6, 2) := by decide +kernel
theorem dX12_under_70 : decode cX12_under 70 = .ok (.iaload, 1) := by decide +kernel
theorem dX12_under_71 : decode cX12_under 71 = .ok (.aload_n 0, 1) := by decide +kernel
theorem dX12_under_72 : decode cX12_under 72 = .ok (.getfield 109, 3) := by decide +kernel
theorem dX12_under_75 : decode cX12_under 75 = .ok (.iload 6, 2) := by decide +kernel
theorem dX12_under_77 : decode cX12_under 77 = .ok (.iaload, 1) := by decide +kernel
theorem dX12_under_78 : decode cX12_under 78 = .ok (.aload_n 0, 1) := by decide +kernel
theorem dX12_under_79 : decode cX12_under 79 = .ok (.getfield 112, 3) := by decide +kernel
theorem dX12_under_82 : decode cX12_under 82 = .ok (.iload 6, 2) := by decide +kernel
theorem dX12_under_84 : decode cX12_under 84 = .ok (.iaload, 1) := by decide +kernel
theorem dX12_under_85 : decode cX12_under 85 = .ok (.invokestatic 358, 3) := by decide +kernel
theorem dX12_under_88 : decode cX12_under 88 = .ok (.ifCond .eq 7, 3) := by decide +kernel
theorem dX12_under_91 : decode cX12_under 91 = .ok (.iload 5, 2) := by decide +kernel
theorem dX12_under_93 : decode cX12_under 93 = .ok (.istore 4, 2) := by decide +kernel
theorem dX12_under_95 : decode cX12_under 95 = .ok (.iinc 5 1, 3) := by decide +kernel
theorem dX12_under_98 : decode cX12_under 98 = .ok (.goto (-68), 3) := by decide +kernel
theorem dX12_under_101 : decode cX12_under 101 = .ok (.iload 4, 2) := by decide +kernel
theorem dX12_under_103 : decode cX12_under 103 = .ok (.iconst (-1), 1) := by decide +kernel
theorem dX12_under_104 : decode cX12_under 104 = .ok (.if_icmp .eq 65, 3) := by decide +kernel
theorem dX12_under_107 : decode cX12_under 107 = .ok (.aload_n 0, 1) := by decide +kernel
theorem dX12_under_108 : decode cX12_under 108 = .ok (.getfield 30, 3) := by decide +kernel
theorem dX12_under_111 : decode cX12_under 111 = .ok (.iload 4, 2) := by decide +kernel
theorem dX12_under_113 : decode cX12_under 113 = .ok (.baload, 1) := by decide +kernel
theorem dX12_under_114 : decode cX12_under 114 = .ok (.ifCond .eq 55, 3) := by decide +kernel
theorem dX12_under_117 : decode cX12_under 117 = .ok (.aload_n 0, 1) := by decide +kernel
theorem dX12_under_118 : decode cX12_under 118 = .ok (.getfield 124, 3) := by decide +kernel
theorem dX12_under_121 : decode cX12_under 121 = .ok (.iload 4, 2) := by decide +kernel
theorem dX12_under_123 : decode cX12_under 123 = .ok (.iaload, 1) := by decide +kernel
theorem dX12_under_124 : decode cX12_under 124 = .ok (.ifCond .le 45, 3) := by decide +kernel
theorem dX12_under_127 : decode cX12_under 127 = .ok (.iload_n 1, 1) := by decide +kernel
theorem dX12_under_128 : decode cX12_under 128 = .ok (.iload_n 2, 1) := by decide +kernel
theorem dX12_under_129 : decode cX12_under 129 = .ok (.aload_n 0, 1) := by decide +kernel
theorem dX12_under_130 : decode cX12_under 130 = .ok (.getfield 130, 3) := by decide +kernel
theorem dX12_under_133 : decode cX12_under 133 = .ok (.iload 4, 2) := by decide +kernel
theorem dX12_under_135 : decode cX12_under 135 = .ok (.iaload, 1) := by decide +kernel
theorem dX12_under_136 : decode cX12_under 136 = .ok (.aload_n 0, 1) := by decide +kernel
theorem dX12_under_137 : decode cX12_under 137 = .ok (.getfield 133, 3) := by decide +kernel
theorem dX12_under_140 : decode cX12_under 140 = .ok (.iload 4, 2) := by decide +kernel
theorem dX12_under_142 : decode cX12_under 142 = .ok (.iaload, 1) := by decide +kernel
theorem dX12_under_143 : decode cX12_under 143 = .ok (.aload_n 0, 1) := by decide +kernel
theorem dX12_under_144 : decode cX12_under 144 = .ok (.getfield 136, 3) := by decide +kernel
theorem dX12_under_147 : decode cX12_under 147 = .ok (.iload 4, 2) := by decide +kernel
theorem dX12_under_149 : decode cX12_under 149 = .ok (.iaload, 1) := by decide +kernel
theorem dX12_under_150 : decode cX12_under 150 = .ok (.aload_n 0, 1) := by decide +kernel
theorem dX12_under_151 : decode cX12_under 151 = .ok (.getfield 139, 3) := by decide +kernel
theorem dX12_under_154 : decode cX12_under 154 = .ok (.iload 4, 2) := by decide +kernel
theorem dX12_under_156 : decode cX12_under 156 = .ok (.iaload, 1) := by decide +kernel
theorem dX12_under_157 : decode cX12_under 157 = .ok (.invokestatic 358, 3) := by decide +kernel
theorem dX12_under_160 : decode cX12_under 160 = .ok (.ifCond .eq 9, 3) := by decide +kernel
theorem dX12_under_163 : decode cX12_under 163 = .ok (.bipush 100, 2) := by decide +kernel
theorem dX12_under_165 : decode cX12_under 165 = .ok (.iload 4, 2) := by decide +kernel
theorem dX12_under_167 : decode cX12_under 167 = .ok (.iadd, 1) := by decide +kernel
theorem dX12_under_168 : decode cX12_under 168 = .ok (.ireturn, 1) := by decide +kernel
theorem dX12_under_169 : decode cX12_under 169 = .ok (.iload 4, 2) := by decide +kernel
theorem dX12_under_171 : decode cX12_under 171 = .ok (.ireturn, 1) := by decide +kernel
theorem dX12_letters_0 : decode cX12_letters 0 = .ok (.aload_n 0, 1) := by decide +kernel
theorem dX12_letters_1 : decode cX12_letters 1 = .ok (.iconst 0, 1) := by decide +kernel
theorem dX12_letters_2 : decode cX12_letters 2 = .ok (.putfield 1, 3) := by decide +kernel
theorem dX12_letters_5 : decode cX12_letters 5 = .ok (.aload_n 0, 1) := by decide +kernel
theorem dX12_letters_6 : decode cX12_letters 6 = .ok (.iload_n 1, 1) := by decide +kernel
theorem dX12_letters_7 : decode cX12_letters 7 = .ok (.invokevirtual 355, 3) := by decide +kernel
theorem dX12_letters_10 : decode cX12_letters 10 = .ok (.ifCond .ne 5, 3) := by decide +kernel
theorem dX12_letters_13 : decode cX12_letters 13 = .ok (.iconst (-1), 1) := by decide +kernel
theorem dX12_letters_14 : decode cX12_letters 14 = .ok (.ireturn, 1) := by decide +kernel
theorem dX12_letters_15 : decode cX12_letters 15 = .ok (.aload_n 0, 1) := by decide +kernel
theorem dX12_letters_16 : decode cX12_letters 16 = .ok (.getfield 249, 3) := by decide +kernel
theorem dX12_letters_19 : decode cX12_letters 19 = .ok (.iconst 1, 1) := by decide +kernel
theorem dX12_letters_20 : decode cX12_letters 20 = .ok (.isub, 1) := by decide +kernel
theorem dX12_letters_21 : decode cX12_letters 21 = .ok (.invokestatic 332, 3) := by decide +kernel
theorem dX12_letters_24 : decode cX12_letters 24 = .ok (.iload_n 1, 1) := by decide +kernel
theorem dX12_letters_25 : decode cX12_letters 25 = .ok (.iadd, 1) := by decide +kernel
theorem dX12_letters_26 : decode cX12_letters 26 = .ok (.istore_n 2, 1) := by decide +kernel
theorem dX12_letters_27 : decode cX12_letters 27 = .ok (.aload_n 0, 1) := by decide +kernel
theorem dX12_letters_28 : decode cX12_letters 28 = .ok (.getfield 100, 3) := by decide +kernel
theorem dX12_letters_31 : decode cX12_letters 31 = .ok (.iload_n 2, 1) := by decide +kernel
theorem dX12_letters_32 : decode cX12_letters 32 = .ok (.baload, 1) := by decide +kernel
theorem dX12_letters_33 : decode cX12_letters 33 = .ok (.ifCond .eq 24, 3) := by decide +kernel
theorem dX12_letters_36 : decode cX12_letters 36 = .ok (.aload_n 0, 1) := by decide +kernel
theorem dX12_letters_37 : decode cX12_letters 37 = .ok (.getfield 112, 3) := by decide +kernel
theorem dX12_letters_40 : decode cX12_letters 40 = .ok (.iload_n 2, 1) := by decide +kernel
theorem dX12_letters_41 : decode cX12_letters 41 = .ok (.iaload, 1) := by decide +kernel
theorem dX12_letters_42 : decode cX12_letters 42 = .ok (.bipush 10, 2) := by decide +kernel
theorem dX12_letters_44 : decode cX12_letters 44 = .ok (.if_icmp .lt 13, 3) := by decide +kernel
theorem dX12_letters_47 : decode cX12_letters 47 = .ok (.aload_n 0, 1) := by decide +kernel
theorem dX12_letters_48 : decode cX12_letters 48 = .ok (.getfield 109, 3) := by decide +kernel
theorem dX12_letters_51 : decode cX12_letters 51 = .ok (.iload_n 2, 1) := by decide +kernel
theorem dX12_letters_52 : decode cX12_letters 52 = .ok (.iaload, 1) := by decide +kernel
theorem dX12_letters_53 : decode cX12_letters 53 = .ok (.iconst 2, 1) := by decide +kernel
theorem dX12_letters_54 : decode cX12_letters 54 = .ok (.if_icmp .ge 5, 3) := by decide +kernel
theorem dX12_letters_57 : decode cX12_letters 57 = .ok (.iconst 0, 1) := by decide +kernel
theorem dX12_letters_58 : decode cX12_letters 58 = .ok (.ireturn, 1) := by decide +kernel
theorem dX12_letters_59 : decode cX12_letters 59 = .ok (.aload_n 0, 1) := by decide +kernel
theorem dX12_letters_60 : decode cX12_letters 60 = .ok (.getfield 49, 3) := by decide +kernel
theorem dX12_letters_63 : decode cX12_letters 63 = .ok (.iload_n 1, 1) := by decide +kernel
theorem dX12_letters_64 : decode cX12_letters 64 = .ok (.iaload, 1) := by decide +kernel
theorem dX12_letters_65 : decode cX12_letters 65 = .ok (.aload_n 0, 1) := by decide +kernel
theorem dX12_letters_66 : decode cX12_letters 66 = .ok (.getfield 109, 3) := by decide +kernel
theorem dX12_letters_69 : decode cX12_letters 69 = .ok (.iload_n 2, 1) := by decide +kernel
theorem dX12_letters_70 : decode cX12_letters 70 = .ok (.iaload, 1) := by decide +kernel
theorem dX12_letters_71 : decode cX12_letters 71 = .ok (.iconst 2, 1) := by decide +kernel
theorem dX12_letters_72 : decode cX12_letters 72 = .ok (.isub, 1) := by decide +kernel
theorem dX12_letters_73 : decode cX12_letters 73 = .ok (.bipush 6, 2) := by decide +kernel
theorem dX12_letters_75 : decode cX12_letters 75 = .ok (.idiv, 1) := by decide +kernel
theorem dX12_letters_76 : decode cX12_letters 76 = .ok (.invokestatic 304, 3) := by decide +kernel
theorem dX12_letters_79 : decode cX12_letters 79 = .ok (.ireturn, 1) := by decide +kernel
theorem dX12_moved_0 : decode cX12_moved 0 = .ok (.aload_n 0, 1) := by decide +kernel
theorem dX12_moved_1 : decode cX12_moved 1 = .ok (.iconst 0, 1) := by decide +kernel
theorem dX12_moved_2 : decode cX12_moved 2 = .ok (.putfield 1, 3) := by decide +kernel
theorem dX12_moved_5 : decode cX12_moved 5 = .ok (.aload_n 0, 1) := by decide +kernel
theorem dX12_moved_6 : decode cX12_moved 6 = .ok (.getfield 249, 3) := by decide +kernel
theorem dX12_moved_9 : decode cX12_moved 9 = .ok (.iconst 2, 1) := by decide +kernel
theorem dX12_moved_10 : decode cX12_moved 10 = .ok (.if_icmp .lt 11, 3) := by decide +kernel
theorem dX12_moved_13 : decode cX12_moved 13 = .ok (.aload_n 0, 1) := by decide +kernel
theorem dX12_moved_14 : decode cX12_moved 14 = .ok (.iload_n 1, 1) := by decide +kernel
theorem dX12_moved_15 : decode cX12_moved 15 = .ok (.invokevirtual 252, 3) := by decide +kernel
theorem dX12_moved_18 : decode cX12_moved 18 = .ok (.ifCond .ne 5, 3) := by decide +kernel
theorem dX12_moved_21 : decode cX12_moved 21 = .ok (.iconst (-1), 1) := by decide +kernel
theorem dX12_moved_22 : decode cX12_moved 22 = .ok (.ireturn, 1) := by decide +kernel
theorem dX12_moved_23 : decode cX12_moved 23 = .ok (.aload_n 0, 1) := by decide +kernel
theorem dX12_moved_24 : decode cX12_moved 24 = .ok (.getfield 249, 3) := by decide +kernel
theorem dX12_moved_27 : decode cX12_moved 27 = .ok (.iconst 1, 1) := by decide +kernel
theorem dX12_moved_28 : decode cX12_moved 28 = .ok (.isub, 1) := by decide +kernel
theorem dX12_moved_29 : decode cX12_moved 29 = .ok (.invokestatic 332, 3) := by decide +kernel
theorem dX12_moved_32 : decode cX12_moved 32 = .ok (.iload_n 1, 1) := by decide +kernel
theorem dX12_moved_33 : decode cX12_moved 33 = .ok (.iadd, 1) := by decide +kernel
theorem dX12_moved_34 : decode cX12_moved 34 = .ok (.istore_n 2, 1) := by decide +kernel
theorem dX12_moved_35 : decode cX12_moved 35 = .ok (.aload_n 0, 1) := by decide +kernel
theorem dX12_moved_36 : decode cX12_moved 36 = .ok (.getfield 249, 3) := by decide +kernel
theorem dX12_moved_39 : decode cX12_moved 39 = .ok (.iconst 2, 1) := by decide +kernel
theorem dX12_moved_40 : decode cX12_moved 40 = .ok (.isub, 1) := by decide +kernel
theorem dX12_moved_41 : decode cX12_moved 41 = .ok (.invokestatic 332, 3) := by decide +kernel
theorem dX12_moved_44 : decode cX12_moved 44 = .ok (.istore_n 3, 1) := by decide +kernel
theorem dX12_moved_45 : decode cX12_moved 45 = .ok (.aload_n 0, 1) := by decide +kernel
theorem dX12_moved_46 : decode cX12_moved 46 = .ok (.getfield 100, 3) := by decide +kernel
theorem dX12_moved_49 : decode cX12_moved 49 = .ok (.iload_n 2, 1) := by decide +kernel
theorem dX12_moved_50 : decode cX12_moved 50 = .ok (.baload, 1) := by decide +kernel
theorem dX12_moved_51 : decode cX12_moved 51 = .ok (.ifCond .eq 47, 3) := by decide +kernel
theorem dX12_moved_54 : decode cX12_moved 54 = .ok (.aload_n 0, 1) := by decide +kernel
theorem dX12_moved_55 : decode cX12_moved 55 = .ok (.getfield 100, 3) := by decide +kernel
theorem dX12_moved_58 : decode cX12_moved 58 = .ok (.iload_n 3, 1) := by decide +kernel
theorem dX12_moved_59 : decode cX12_moved 59 = .ok (.iload_n 1, 1) := by decide +kernel
theorem dX12_moved_60 : decode cX12_moved 60 = .ok (.iadd, 1) := by decide +kernel
theorem dX12_moved_61 : decode cX12_moved 61 = .ok (.baload, 1) := by decide +kernel
theorem dX12_moved_62 : decode cX12_moved 62 = .ok (.ifCond .eq 36, 3) := by decide +kernel
theorem dX12_moved_65 : decode cX12_moved 65 = .ok (.aload_n 0, 1) := by decide +kernel
theorem dX12_moved_66 : decode cX12_moved 66 = .ok (.iload_n 3, 1) := by decide +kernel
theorem dX12_moved_67 : decode cX12_moved 67 = .ok (.iload_n 1, 1) := by decide +kernel
theorem dX12_moved_68 : decode cX12_moved 68 = .ok (.aload_n 0, 1) := by decide +kernel
theorem dX12_moved_69 : decode cX12_moved 69 = .ok (.getfield 103, 3) := by decide +kernel
theorem dX12_moved_72 : decode cX12_moved 72 = .ok (.iload_n 2, 1) := by decide +kernel
theorem dX12_moved_73 : decode cX12_moved 73 = .ok (.iaload, 1) := by decide +kernel
theorem dX12_moved_74 : decode cX12_moved 74 = .ok (.aload_n 0, 1) := by decide +kernel
theorem dX12_moved_75 : decode cX12_moved 75 = .ok (.getfield 106, 3) := by decide +kernel
theorem dX12_moved_78 : decode cX12_moved 78 = .ok (.iload_n 2, 1) := by decide +kernel
theorem dX12_moved_79 : decode cX12_moved 79 = .ok (.iaload, 1) := by decide +kernel
theorem dX12_moved_80 : decode cX12_moved 80 = .ok (.aload_n 0, 1) := by decide +kernel
theorem dX12_moved_81 : decode cX12_moved 81 = .ok (.getfield 109, 3) := by decide +kernel
theorem dX12_moved_84 : decode cX12_moved 84 = .ok (.iload_n 2, 1) := by decide +kernel
theorem dX12_moved_85 : decode cX12_moved 85 = .ok (.iaload, 1) := by decide +kernel
theorem dX12_moved_86 : decode cX12_moved 86 = .ok (.aload_n 0, 1) := by decide +kernel
theorem dX12_moved_87 : decode cX12_moved 87 = .ok (.getfield 112, 3) := by decide +kernel
theorem dX12_moved_90 : decode cX12_moved 90 = .ok (.iload_n 2, 1) := by decide +kernel
theorem dX12_moved_91 : decode cX12_moved 91 = .ok (.iaload, 1) := by decide +kernel
theorem dX12_moved_92 : decode cX12_moved 92 = .ok (.invokevirtual 335, 3) := by decide +kernel
theorem dX12_moved_95 : decode cX12_moved 95 = .ok (.goto 4, 3) := by decide +kernel
theorem dX12_moved_98 : decode cX12_moved 98 = .ok (.iconst (-1), 1) := by decide +kernel
theorem dX12_moved_99 : decode cX12_moved 99 = .ok (.ireturn, 1) := by decide +kernel
theorem dX12_past_0 : decode cX12_past 0 = .ok (.aload_n 0, 1) := by decide +kernel
theorem dX12_past_1 : decode cX12_past 1 = .ok (.iconst 0, 1) := by decide +kernel
theorem dX12_past_2 : decode cX12_past 2 = .ok (.putfield 1, 3) := by decide +kernel
theorem dX12_past_5 : decode cX12_past 5 = .ok (.aload_n 0, 1) := by decide +kernel
theorem dX12_past_6 : decode cX12_past 6 = .ok (.iload_n 2, 1) := by decide +kernel
theorem dX12_past_7 : decode cX12_past 7 = .ok (.invokevirtual 252, 3) := by decide +kernel
theorem dX12_past_10 : decode cX12_past 10 = .ok (.ifCond .eq 39, 3) := by decide +kernel
theorem dX12_past_13 : decode cX12_past 13 = .ok (.iload_n 3, 1) := by decide +kernel
theorem dX12_past_14 : decode cX12_past 14 = .ok (.iconst 0, 1) := by decide +kernel
theorem dX12_past_15 : decode cX12_past 15 = .ok (.iconst 5, 1) := by decide +kernel
theorem dX12_past_16 : decode cX12_past 16 = .ok (.invokestatic 142, 3) := by decide +kernel
theorem dX12_past_19 : decode cX12_past 19 = .ok (.ifCond .eq 30, 3) := by decide +kernel
theorem dX12_past_22 : decode cX12_past 22 = .ok (.iload_n 1, 1) := by decide +kernel
theorem dX12_past_23 : decode cX12_past 23 = .ok (.ifCond .lt 26, 3) := by decide +kernel
theorem dX12_past_26 : decode cX12_past 26 = .ok (.iload_n 1, 1) := by decide +kernel
theorem dX12_past_27 : decode cX12_past 27 = .ok (.aload_n 0, 1) := by decide +kernel
theorem dX12_past_28 : decode cX12_past 28 = .ok (.getfield 249, 3) := by decide +kernel
theorem dX12_past_31 : decode cX12_past 31 = .ok (.if_icmp .ge 18, 3) := by decide +kernel
theorem dX12_past_34 : decode cX12_past 34 = .ok (.iload_n 1, 1) := by decide +kernel
theorem dX12_past_35 : decode cX12_past 35 = .ok (.aload_n 0, 1) := by decide +kernel
theorem dX12_past_36 : decode cX12_past 36 = .ok (.getfield 249, 3) := by decide +kernel
theorem dX12_past_39 : decode cX12_past 39 = .ok (.bipush 50, 2) := by decide +kernel
theorem dX12_past_41 : decode cX12_past 41 = .ok (.isub, 1) := by decide +kernel
theorem dX12_past_42 : decode cX12_past 42 = .ok (.if_icmp .lt 7, 3) := by decide +kernel
theorem dX12_past_45 : decode cX12_past 45 = .ok (.iconst 1, 1) := by decide +kernel
theorem dX12_past_46 : decode cX12_past 46 = .ok (.goto 4, 3) := by decide +kernel
theorem dX12_past_49 : decode cX12_past 49 = .ok (.iconst 0, 1) := by decide +kernel
theorem dX12_past_50 : decode cX12_past 50 = .ok (.istore 4, 2) := by decide +kernel
theorem dX12_past_52 : decode cX12_past 52 = .ok (.iload 4, 2) := by decide +kernel
theorem dX12_past_54 : decode cX12_past 54 = .ok (.ifCond .eq 12, 3) := by decide +kernel
theorem dX12_past_57 : decode cX12_past 57 = .ok (.iload_n 1, 1) := by decide +kernel
theorem dX12_past_58 : decode cX12_past 58 = .ok (.invokestatic 332, 3) := by decide +kernel
theorem dX12_past_61 : decode cX12_past 61 = .ok (.iload_n 2, 1) := by decide +kernel
theorem dX12_past_62 : decode cX12_past 62 = .ok (.iadd, 1) := by decide +kernel
theorem dX12_past_63 : decode cX12_past 63 = .ok (.goto 4, 3) := by decide +kernel
theorem dX12_past_66 : decode cX12_past 66 = .ok (.iconst 0, 1) := by decide +kernel
theorem dX12_past_67 : decode cX12_past 67 = .ok (.istore 5, 2) := by decide +kernel
theorem dX12_past_69 : decode cX12_past 69 = .ok (.iload 4, 2) := by decide +kernel
theorem dX12_past_71 : decode cX12_past 71 = .ok (.ifCond .eq 18, 3) := by decide +kernel
theorem dX12_past_74 : decode cX12_past 74 = .ok (.iload_n 3, 1) := by decide +kernel
theorem dX12_past_75 : decode cX12_past 75 = .ok (.iconst 4, 1) := by decide +kernel
theorem dX12_past_76 : decode cX12_past 76 = .ok (.if_icmp .ge 20, 3) := by decide +kernel
theorem dX12_past_79 : decode cX12_past 79 = .ok (.aload_n 0, 1) := by decide +kernel
theorem dX12_past_80 : decode cX12_past 80 = .ok (.getfield 100, 3) := by decide +kernel
theorem dX12_past_83 : decode cX12_past 83 = .ok (.iload 5, 2) := by decide +kernel
theorem dX12_past_85 : decode cX12_past 85 = .ok (.baload, 1) := by decide +kernel
theorem dX12_past_86 : decode cX12_past 86 = .ok (.ifCond .ne 10, 3) := by decide +kernel
theorem dX12_past_89 : decode cX12_past 89 = .ok (.aload_n 0, 1) := by decide +kernel
theorem dX12_past_90 : decode cX12_past 90 = .ok (.iconst 1, 1) := by decide +kernel
theorem dX12_past_91 : decode cX12_past 91 = .ok (.putfield 1, 3) := by decide +kernel
theorem dX12_past_94 : decode cX12_past 94 = .ok (.iconst 0, 1) := by decide +kernel
theorem dX12_past_95 : decode cX12_past 95 = .ok (.ireturn, 1) := by decide +kernel
theorem dX12_past_96 : decode cX12_past 96 = .ok (.iload_n 3, 1) := by decide +kernel
theorem dX12_past_97 : decode cX12_past 97 = .ok (.tableswitch 75 0 4 #[35, 43, 51, 59, 67], 35) := by decide +kernel
theorem dX12_past_132 : decode cX12_past 132 = .ok (.aload_n 0, 1) := by decide +kernel
theorem dX12_past_133 : decode cX12_past 133 = .ok (.getfield 103, 3) := by decide +kernel
theorem dX12_past_136 : decode cX12_past 136 = .ok (.iload 5, 2) := by decide +kernel
theorem dX12_past_138 : decode cX12_past 138 = .ok (.iaload, 1) := by decide +kernel
theorem dX12_past_139 : decode cX12_past 139 = .ok (.ireturn, 1) := by decide +kernel
theorem dX12_past_140 : decode cX12_past 140 = .ok (.aload_n 0, 1) := by decide +kernel
theorem dX12_past_141 : decode cX12_past 141 = .ok (.getfield 106, 3) := by decide +kernel
theorem dX12_past_144 : decode cX12_past 144 = .ok (.iload 5, 2) := by decide +kernel
theorem dX12_past_146 : decode cX12_past 146 = .ok (.iaload, 1) := by decide +kernel
theorem dX12_past_147 : decode cX12_past 147 = .ok (.ireturn, 1) := by decide +kernel
theorem dX12_past_148 : decode cX12_past 148 = .ok (.aload_n 0, 1) := by decide +kernel
theorem dX12_past_149 : decode cX12_past 149 = .ok (.getfield 109, 3) := by decide +kernel
theorem dX12_past_152 : decode cX12_past 152 = .ok (.iload 5, 2) := by decide +kernel
theorem dX12_past_154 : decode cX12_past 154 = .ok (.iaload, 1) := by decide +kernel
theorem dX12_past_155 : decode cX12_past 155 = .ok (.ireturn, 1) := by decide +kernel
theorem dX12_past_156 : decode cX12_past 156 = .ok (.aload_n 0, 1) := by decide +kernel
theorem dX12_past_157 : decode cX12_past 157 = .ok (.getfield 112, 3) := by decide +kernel
theorem dX12_past_160 : decode cX12_past 160 = .ok (.iload 5, 2) := by decide +kernel
theorem dX12_past_162 : decode cX12_past 162 = .ok (.iaload, 1) := by decide +kernel
theorem dX12_past_163 : decode cX12_past 163 = .ok (.ireturn, 1) := by decide +kernel
theorem dX12_past_164 : decode cX12_past 164 = .ok (.aload_n 0, 1) := by decide +kernel
theorem dX12_past_165 : decode cX12_past 165 = .ok (.getfield 115, 3) := by decide +kernel
theorem dX12_past_168 : decode cX12_past 168 = .ok (.iload 5, 2) := by decide +kernel
theorem dX12_past_170 : decode cX12_past 170 = .ok (.iaload, 1) := by decide +kernel
theorem dX12_past_171 : decode cX12_past 171 = .ok (.ireturn, 1) := by decide +kernel
theorem dX12_past_172 : decode cX12_past 172 = .ok (.aload_n 0, 1) := by decide +kernel
theorem dX12_past_173 : decode cX12_past 173 = .ok (.getfield 97, 3) := by decide +kernel
theorem dX12_past_176 : decode cX12_past 176 = .ok (.iload_n 1, 1) := by decide +kernel
theorem dX12_past_177 : decode cX12_past 177 = .ok (.bipush 51, 2) := by decide +kernel
theorem dX12_past_179 : decode cX12_past 179 = .ok (.irem, 1) := by decide +kernel
theorem dX12_past_180 : decode cX12_past 180 = .ok (.iaload, 1) := by decide +kernel
theorem dX12_past_181 : decode cX12_past 181 = .ok (.ireturn, 1) := by decide +kernel
theorem dX12_about_0 : decode cX12_about 0 = .ok (.aload_n 0, 1) := by decide +kernel
theorem dX12_about_1 : decode cX12_about 1 = .ok (.iconst 0, 1) := by decide +kernel
theorem dX12_about_2 : decode cX12_about 2 = .ok (.putfield 1, 3) := by decide +kernel
theorem dX12_about_5 : decode cX12_about 5 = .ok (.aload_n 0, 1) := by decide +kernel
theorem dX12_about_6 : decode cX12_about 6 = .ok (.iload_n 1, 1) := by decide +kernel
theorem dX12_about_7 : decode cX12_about 7 = .ok (.invokevirtual 252, 3) := by decide +kernel
theorem dX12_about_10 : decode cX12_about 10 = .ok (.ifCond .ne 5, 3) := by decide +kernel
theorem dX12_about_13 : decode cX12_about 13 = .ok (.iconst (-1), 1) := by decide +kernel
theorem dX12_about_14 : decode cX12_about 14 = .ok (.ireturn, 1) := by decide +kernel
theorem dX12_about_15 : decode cX12_about 15 = .ok (.iload_n 2, 1) := by decide +kernel
theorem dX12_about_16 : decode cX12_about 16 = .ok (.tableswitch 191 0 8 #[52, 59, 74, 81, 88, 95, 115, 143, 163], 52) := by decide +kernel
theorem dX12_about_68 : decode cX12_about 68 = .ok (.aload_n 0, 1) := by decide +kernel
theorem dX12_about_69 : decode cX12_about 69 = .ok (.getfield 26, 3) := by decide +kernel
theorem dX12_about_72 : decode cX12_about 72 = .ok (.iload_n 1, 1) := by decide +kernel
theorem dX12_about_73 : decode cX12_about 73 = .ok (.iaload, 1) := by decide +kernel
theorem dX12_about_74 : decode cX12_about 74 = .ok (.ireturn, 1) := by decide +kernel
theorem dX12_about_75 : decode cX12_about 75 = .ok (.aload_n 0, 1) := by decide +kernel
theorem dX12_about_76 : decode cX12_about 76 = .ok (.getfield 30, 3) := by decide +kernel
theorem dX12_about_79 : decode cX12_about 79 = .ok (.iload_n 1, 1) := by decide +kernel
theorem dX12_about_80 : decode cX12_about 80 = .ok (.baload, 1) := by decide +kernel
theorem dX12_about_81 : decode cX12_about 81 = .ok (.ifCond .eq 7, 3) := by decide +kernel
theorem dX12_about_84 : decode cX12_about 84 = .ok (.iconst 1, 1) := by decide +kernel
theorem dX12_about_85 : decode cX12_about 85 = .ok (.goto 4, 3) := by decide +kernel
theorem dX12_about_88 : decode cX12_about 88 = .ok (.iconst 0, 1) := by decide +kernel
theorem dX12_about_89 : decode cX12_about 89 = .ok (.ireturn, 1) := by decide +kernel
theorem dX12_about_90 : decode cX12_about 90 = .ok (.aload_n 0, 1) := by decide +kernel
theorem dX12_about_91 : decode cX12_about 91 = .ok (.getfield 34, 3) := by decide +kernel
theorem dX12_about_94 : decode cX12_about 94 = .ok (.iload_n 1, 1) := by decide +kernel
theorem dX12_about_95 : decode cX12_about 95 = .ok (.iaload, 1) := by decide +kernel
theorem dX12_about_96 : decode cX12_about 96 = .ok (.ireturn, 1) := by decide +kernel
theorem dX12_about_97 : decode cX12_about 97 = .ok (.aload_n 0, 1) := by decide +kernel
theorem dX12_about_98 : decode cX12_about 98 = .ok (.getfield 49, 3) := by decide +kernel
theorem dX12_about_101 : decode cX12_about 101 = .ok (.iload_n 1, 1) := by decide +kernel
theorem dX12_about_102 : decode cX12_about 102 = .ok (.iaload, 1) := by decide +kernel
theorem dX12_about_103 : decode cX12_about 103 = .ok (.ireturn, 1) := by decide +kernel
theorem dX12_about_104 : decode cX12_about 104 = .ok (.aload_n 0, 1) := by decide +kernel
theorem dX12_about_105 : decode cX12_about 105 = .ok (.getfield 37, 3) := by decide +kernel
theorem dX12_about_108 : decode cX12_about 108 = .ok (.iload_n 1, 1) := by decide +kernel
theorem dX12_about_109 : decode cX12_about 109 = .ok (.iaload, 1) := by decide +kernel
theorem dX12_about_110 : decode cX12_about 110 = .ok (.ireturn, 1) := by decide +kernel
theorem dX12_about_111 : decode cX12_about 111 = .ok (.aload_n 0, 1) := by decide +kernel
theorem dX12_about_112 : decode cX12_about 112 = .ok (.getfield 30, 3) := by decide +kernel
theorem dX12_about_115 : decode cX12_about 115 = .ok (.iload_n 1, 1) := by decide +kernel
theorem dX12_about_116 : decode cX12_about 116 = .ok (.baload, 1) := by decide +kernel
theorem dX12_about_117 : decode cX12_about 117 = .ok (.ifCond .eq 12, 3) := by decide +kernel
theorem dX12_about_120 : decode cX12_about 120 = .ok (.aload_n 0, 1) := by decide +kernel
theorem dX12_about_121 : decode cX12_about 121 = .ok (.getfield 40, 3) := by decide +kernel
theorem dX12_about_124 : decode cX12_about 124 = .ok (.iload_n 1, 1) := by decide +kernel
theorem dX12_about_125 : decode cX12_about 125 = .ok (.iaload, 1) := by decide +kernel
theorem dX12_about_126 : decode cX12_about 126 = .ok (.goto 4, 3) := by decide +kernel
theorem dX12_about_129 : decode cX12_about 129 = .ok (.iconst (-1), 1) := by decide +kernel
theorem dX12_about_130 : decode cX12_about 130 = .ok (.ireturn, 1) := by decide +kernel
theorem dX12_about_131 : decode cX12_about 131 = .ok (.aload_n 0, 1) := by decide +kernel
theorem dX12_about_132 : decode cX12_about 132 = .ok (.getfield 30, 3) := by decide +kernel
theorem dX12_about_135 : decode cX12_about 135 = .ok (.iload_n 1, 1) := by decide +kernel
theorem dX12_about_136 : decode cX12_about 136 = .ok (.baload, 1) := by decide +kernel
theorem dX12_about_137 : decode cX12_about 137 = .ok (.ifCond .ne 7, 3) := by decide +kernel
theorem dX12_about_140 : decode cX12_about 140 = .ok (.iconst (-1), 1) := by decide +kernel
theorem dX12_about_141 : decode cX12_about 141 = .ok (.goto 17, 3) := by decide +kernel
theorem dX12_about_144 : decode cX12_about 144 = .ok (.aload_n 0, 1) := by decide +kernel
theorem dX12_about_145 : decode cX12_about 145 = .ok (.getfield 43, 3) := by decide +kernel
theorem dX12_about_148 : decode cX12_about 148 = .ok (.iload_n 1, 1) := by decide +kernel
theorem dX12_about_149 : decode cX12_about 149 = .ok (.baload, 1) := by decide +kernel
theorem dX12_about_150 : decode cX12_about 150 = .ok (.ifCond .eq 7, 3) := by decide +kernel
theorem dX12_about_153 : decode cX12_about 153 = .ok (.iconst 1, 1) := by decide +kernel
theorem dX12_about_154 : decode cX12_about 154 = .ok (.goto 4, 3) := by decide +kernel
theorem dX12_about_157 : decode cX12_about 157 = .ok (.iconst 0, 1) := by decide +kernel
theorem dX12_about_158 : decode cX12_about 158 = .ok (.ireturn, 1) := by decide +kernel
theorem dX12_about_159 : decode cX12_about 159 = .ok (.aload_n 0, 1) := by decide +kernel
theorem dX12_about_160 : decode cX12_about 160 = .ok (.getfield 30, 3) := by decide +kernel
theorem dX12_about_163 : decode cX12_about 163 = .ok (.iload_n 1, 1) := by decide +kernel
theorem dX12_about_164 : decode cX12_about 164 = .ok (.baload, 1) := by decide +kernel
theorem dX12_about_165 : decode cX12_about 165 = .ok (.ifCond .eq 12, 3) := by decide +kernel
theorem dX12_about_168 : decode cX12_about 168 = .ok (.aload_n 0, 1) := by decide +kernel
theorem dX12_about_169 : decode cX12_about 169 = .ok (.getfield 64, 3) := by decide +kernel
theorem dX12_about_172 : decode cX12_about 172 = .ok (.iload_n 1, 1) := by decide +kernel
theorem dX12_about_173 : decode cX12_about 173 = .ok (.iaload, 1) := by decide +kernel
theorem dX12_about_174 : decode cX12_about 174 = .ok (.goto 4, 3) := by decide +kernel
theorem dX12_about_177 : decode cX12_about 177 = .ok (.iconst (-1), 1) := by decide +kernel
theorem dX12_about_178 : decode cX12_about 178 = .ok (.ireturn, 1) := by decide +kernel
theorem dX12_about_179 : decode cX12_about 179 = .ok (.aload_n 0, 1) := by decide +kernel
theorem dX12_about_180 : decode cX12_about 180 = .ok (.getfield 30, 3) := by decide +kernel
theorem dX12_about_183 : decode cX12_about 183 = .ok (.iload_n 1, 1) := by decide +kernel
theorem dX12_about_184 : decode cX12_about 184 = .ok (.baload, 1) := by decide +kernel
theorem dX12_about_185 : decode cX12_about 185 = .ok (.ifCond .ne 7, 3) := by decide +kernel
theorem dX12_about_188 : decode cX12_about 188 = .ok (.iconst (-1), 1) := by decide +kernel
theorem dX12_about_189 : decode cX12_about 189 = .ok (.goto 17, 3) := by decide +kernel
theorem dX12_about_192 : decode cX12_about 192 = .ok (.aload_n 0, 1) := by decide +kernel
theorem dX12_about_193 : decode cX12_about 193 = .ok (.getfield 67, 3) := by decide +kernel
theorem dX12_about_196 : decode cX12_about 196 = .ok (.iload_n 1, 1) := by decide +kernel
theorem dX12_about_197 : decode cX12_about 197 = .ok (.baload, 1) := by decide +kernel
theorem dX12_about_198 : decode cX12_about 198 = .ok (.ifCond .eq 7, 3) := by decide +kernel
theorem dX12_about_201 : decode cX12_about 201 = .ok (.iconst 1, 1) := by decide +kernel
theorem dX12_about_202 : decode cX12_about 202 = .ok (.goto 4, 3) := by decide +kernel
theorem dX12_about_205 : decode cX12_about 205 = .ok (.iconst 0, 1) := by decide +kernel
theorem dX12_about_206 : decode cX12_about 206 = .ok (.ireturn, 1) := by decide +kernel
theorem dX12_about_207 : decode cX12_about 207 = .ok (.iconst (-1), 1) := by decide +kernel
theorem dX12_about_208 : decode cX12_about 208 = .ok (.ireturn, 1) := by decide +kernel
theorem dX12_letter_0 : decode cX12_letter 0 = .ok (.aload_n 0, 1) := by decide +kernel
theorem dX12_letter_1 : decode cX12_letter 1 = .ok (.iconst 0, 1) := by decide +kernel
theorem dX12_letter_2 : decode cX12_letter 2 = .ok (.putfield 1, 3) := by decide +kernel
theorem dX12_letter_5 : decode cX12_letter 5 = .ok (.aload_n 0, 1) := by decide +kernel
theorem dX12_letter_6 : decode cX12_letter 6 = .ok (.iload_n 1, 1) := by decide +kernel
theorem dX12_letter_7 : decode cX12_letter 7 = .ok (.invokevirtual 252, 3) := by decide +kernel
theorem dX12_letter_10 : decode cX12_letter 10 = .ok (.ifCond .eq 31, 3) := by decide +kernel
theorem dX12_letter_13 : decode cX12_letter 13 = .ok (.iload_n 2, 1) := by decide +kernel
theorem dX12_letter_14 : decode cX12_letter 14 = .ok (.ifCond .lt 27, 3) := by decide +kernel
theorem dX12_letter_17 : decode cX12_letter 17 = .ok (.iload_n 2, 1) := by decide +kernel
theorem dX12_letter_18 : decode cX12_letter 18 = .ok (.aload_n 0, 1) := by decide +kernel
theorem dX12_letter_19 : decode cX12_letter 19 = .ok (.getfield 49, 3) := by decide +kernel
theorem dX12_letter_22 : decode cX12_letter 22 = .ok (.iload_n 1, 1) := by decide +kernel
theorem dX12_letter_23 : decode cX12_letter 23 = .ok (.iaload, 1) := by decide +kernel
theorem dX12_letter_24 : decode cX12_letter 24 = .ok (.if_icmp .ge 17, 3) := by decide +kernel
theorem dX12_letter_27 : decode cX12_letter 27 = .ok (.aload_n 0, 1) := by decide +kernel
theorem dX12_letter_28 : decode cX12_letter 28 = .ok (.getfield 52, 3) := by decide +kernel
theorem dX12_letter_31 : decode cX12_letter 31 = .ok (.bipush 8, 2) := by decide +kernel
theorem dX12_letter_33 : decode cX12_letter 33 = .ok (.iload_n 1, 1) := by decide +kernel
theorem dX12_letter_34 : decode cX12_letter 34 = .ok (.imul, 1) := by decide +kernel
theorem dX12_letter_35 : decode cX12_letter 35 = .ok (.iload_n 2, 1) := by decide +kernel
theorem dX12_letter_36 : decode cX12_letter 36 = .ok (.iadd, 1) := by decide +kernel
theorem dX12_letter_37 : decode cX12_letter 37 = .ok (.baload, 1) := by decide +kernel
theorem dX12_letter_38 : decode cX12_letter 38 = .ok (.goto 4, 3) := by decide +kernel
theorem dX12_letter_41 : decode cX12_letter 41 = .ok (.iconst (-1), 1) := by decide +kernel
theorem dX12_letter_42 : decode cX12_letter 42 = .ok (.ireturn, 1) := by decide +kernel
theorem dX12_named_0 : decode cX12_named 0 = .ok (.aload_n 0, 1) := by decide +kernel
theorem dX12_named_1 : decode cX12_named 1 = .ok (.iconst 0, 1) := by decide +kernel
theorem dX12_named_2 : decode cX12_named 2 = .ok (.putfield 1, 3) := by decide +kernel
theorem dX12_named_5 : decode cX12_named 5 = .ok (.iconst (-1), 1) := by decide +kernel
theorem dX12_named_6 : decode cX12_named 6 = .ok (.istore_n 1, 1) := by decide +kernel
theorem dX12_named_7 : decode cX12_named 7 = .ok (.iconst 0, 1) := by decide +kernel
theorem dX12_named_8 : decode cX12_named 8 = .ok (.istore_n 2, 1) := by decide +kernel
theorem dX12_named_9 : decode cX12_named 9 = .ok (.iload_n 2, 1) := by decide +kernel
theorem dX12_named_10 : decode cX12_named 10 = .ok (.aload_n 0, 1) := by decide +kernel
theorem dX12_named_11 : decode cX12_named 11 = .ok (.getfield 243, 3) := by decide +kernel
theorem dX12_named_14 : decode cX12_named 14 = .ok (.if_icmp .ge 86, 3) := by decide +kernel
theorem dX12_named_17 : decode cX12_named 17 = .ok (.aload_n 0, 1) := by decide +kernel
theorem dX12_named_18 : decode cX12_named 18 = .ok (.getfield 49, 3) := by decide +kernel
theorem dX12_named_21 : decode cX12_named 21 = .ok (.iload_n 2, 1) := by decide +kernel
theorem dX12_named_22 : decode cX12_named 22 = .ok (.iaload, 1) := by decide +kernel
theorem dX12_named_23 : decode cX12_named 23 = .ok (.aload_n 0, 1) := by decide +kernel
theorem dX12_named_24 : decode cX12_named 24 = .ok (.getfield 149, 3) := by decide +kernel
theorem dX12_named_27 : decode cX12_named 27 = .ok (.if_icmp .ne 7, 3) := by decide +kernel
theorem dX12_named_30 : decode cX12_named 30 = .ok (.iconst 1, 1) := by decide +kernel
theorem dX12_named_31 : decode cX12_named 31 = .ok (.goto 4, 3) := by decide +kernel
theorem dX12_named_34 : decode cX12_named 34 = .ok (.iconst 0, 1) := by decide +kernel
theorem dX12_named_35 : decode cX12_named 35 = .ok (.istore_n 3, 1) := by decide +kernel
theorem dX12_named_36 : decode cX12_named 36 = .ok (.iconst 0, 1) := by decide +kernel
theorem dX12_named_37 : decode cX12_named 37 = .ok (.istore 4, 2) := by decide +kernel
theorem dX12_named_39 : decode cX12_named 39 = .ok (.iload 4, 2) := by decide +kernel
theorem dX12_named_41 : decode cX12_named 41 = .ok (.aload_n 0, 1) := by decide +kernel
theorem dX12_named_42 : decode cX12_named 42 = .ok (.getfield 49, 3) := by decide +kernel
theorem dX12_named_45 : decode cX12_named 45 = .ok (.iload_n 2, 1) := by decide +kernel
theorem dX12_named_46 : decode cX12_named 46 = .ok (.iaload, 1) := by decide +kernel
theorem dX12_named_47 : decode cX12_named 47 = .ok (.if_icmp .ge 41, 3) := by decide +kernel
theorem dX12_named_50 : decode cX12_named 50 = .ok (.iload_n 3, 1) := by decide +kernel
theorem dX12_named_51 : decode cX12_named 51 = .ok (.ifCond .eq 37, 3) := by decide +kernel
theorem dX12_named_54 : decode cX12_named 54 = .ok (.aload_n 0, 1) := by decide +kernel
theorem dX12_named_55 : decode cX12_named 55 = .ok (.getfield 52, 3) := by decide +kernel
theorem dX12_named_58 : decode cX12_named 58 = .ok (.bipush 8, 2) := by decide +kernel
theorem dX12_named_60 : decode cX12_named 60 = .ok (.iload_n 2, 1) := by decide +kernel
theorem dX12_named_61 : decode cX12_named 61 = .ok (.imul, 1) := by decide +kernel
theorem dX12_named_62 : decode cX12_named 62 = .ok (.iload 4, 2) := by decide +kernel
theorem dX12_named_64 : decode cX12_named 64 = .ok (.iadd, 1) := by decide +kernel
theorem dX12_named_65 : decode cX12_named 65 = .ok (.baload, 1) := by decide +kernel
theorem dX12_named_66 : decode cX12_named 66 = .ok (.aload_n 0, 1) := by decide +kernel
theorem dX12_named_67 : decode cX12_named 67 = .ok (.getfield 19, 3) := by decide +kernel
theorem dX12_named_70 : decode cX12_named 70 = .ok (.iload 4, 2) := by decide +kernel
theorem dX12_named_72 : decode cX12_named 72 = .ok (.baload, 1) := by decide +kernel
theorem dX12_named_73 : decode cX12_named 73 = .ok (.if_icmp .ne 7, 3) := by decide +kernel
theorem dX12_named_76 : decode cX12_named 76 = .ok (.iconst 1, 1) := by decide +kernel
theorem dX12_named_77 : decode cX12_named 77 = .ok (.goto 4, 3) := by decide +kernel
theorem dX12_named_80 : decode cX12_named 80 = .ok (.iconst 0, 1) := by decide +kernel
theorem dX12_named_81 : decode cX12_named 81 = .ok (.istore_n 3, 1) := by decide +kernel
theorem dX12_named_82 : decode cX12_named 82 = .ok (.iinc 4 1, 3) := by decide +kernel
theorem dX12_named_85 : decode cX12_named 85 = .ok (.goto (-46), 3) := by decide +kernel
theorem dX12_named_88 : decode cX12_named 88 = .ok (.iload_n 3, 1) := by decide +kernel
theorem dX12_named_89 : decode cX12_named 89 = .ok (.ifCond .eq 5, 3) := by decide +kernel
theorem dX12_named_92 : decode cX12_named 92 = .ok (.iload_n 2, 1) := by decide +kernel
theorem dX12_named_93 : decode cX12_named 93 = .ok (.istore_n 1, 1) := by decide +kernel
theorem dX12_named_94 : decode cX12_named 94 = .ok (.iinc 2 1, 3) := by decide +kernel
theorem dX12_named_97 : decode cX12_named 97 = .ok (.goto (-88), 3) := by decide +kernel
theorem dX12_named_100 : decode cX12_named 100 = .ok (.aload_n 0, 1) := by decide +kernel
theorem dX12_named_101 : decode cX12_named 101 = .ok (.iconst 0, 1) := by decide +kernel
theorem dX12_named_102 : decode cX12_named 102 = .ok (.putfield 149, 3) := by decide +kernel
theorem dX12_named_105 : decode cX12_named 105 = .ok (.iload_n 1, 1) := by decide +kernel
theorem dX12_named_106 : decode cX12_named 106 = .ok (.ireturn, 1) := by decide +kernel
theorem dX12_groups_0 : decode cX12_groups 0 = .ok (.iconst 0, 1) := by decide +kernel
theorem dX12_groups_1 : decode cX12_groups 1 = .ok (.istore_n 1, 1) := by decide +kernel
theorem dX12_groups_2 : decode cX12_groups 2 = .ok (.iconst 0, 1) := by decide +kernel
theorem dX12_groups_3 : decode cX12_groups 3 = .ok (.istore_n 2, 1) := by decide +kernel
theorem dX12_groups_4 : decode cX12_groups 4 = .ok (.iload_n 2, 1) := by decide +kernel
theorem dX12_groups_5 : decode cX12_groups 5 = .ok (.aload_n 0, 1) := by decide +kernel
theorem dX12_groups_6 : decode cX12_groups 6 = .ok (.getfield 243, 3) := by decide +kernel
theorem dX12_groups_9 : decode cX12_groups 9 = .ok (.if_icmp .ge 21, 3) := by decide +kernel
theorem dX12_groups_12 : decode cX12_groups 12 = .ok (.aload_n 0, 1) := by decide +kernel
theorem dX12_groups_13 : decode cX12_groups 13 = .ok (.getfield 30, 3) := by decide +kernel
theorem dX12_groups_16 : decode cX12_groups 16 = .ok (.iload_n 2, 1) := by decide +kernel
theorem dX12_groups_17 : decode cX12_groups 17 = .ok (.baload, 1) := by decide +kernel
theorem dX12_groups_18 : decode cX12_groups 18 = .ok (.ifCond .eq 6, 3) := by decide +kernel
theorem dX12_groups_21 : decode cX12_groups 21 = .ok (.iinc 1 1, 3) := by decide +kernel
theorem dX12_groups_24 : decode cX12_groups 24 = .ok (.iinc 2 1, 3) := by decide +kernel
theorem dX12_groups_27 : decode cX12_groups 27 = .ok (.goto (-23), 3) := by decide +kernel
theorem dX12_groups_30 : decode cX12_groups 30 = .ok (.iload_n 1, 1) := by decide +kernel
theorem dX12_groups_31 : decode cX12_groups 31 = .ok (.ireturn, 1) := by decide +kernel
theorem dX12_shown_0 : decode cX12_shown 0 = .ok (.iconst 0, 1) := by decide +kernel
theorem dX12_shown_1 : decode cX12_shown 1 = .ok (.istore_n 1, 1) := by decide +kernel
theorem dX12_shown_2 : decode cX12_shown 2 = .ok (.iconst 0, 1) := by decide +kernel
theorem dX12_shown_3 : decode cX12_shown 3 = .ok (.istore_n 2, 1) := by decide +kernel
theorem dX12_shown_4 : decode cX12_shown 4 = .ok (.iload_n 2, 1) := by decide +kernel
theorem dX12_shown_5 : decode cX12_shown 5 = .ok (.aload_n 0, 1) := by decide +kernel
theorem dX12_shown_6 : decode cX12_shown 6 = .ok (.getfield 243, 3) := by decide +kernel
theorem dX12_shown_9 : decode cX12_shown 9 = .ok (.if_icmp .ge 38, 3) := by decide +kernel
theorem dX12_shown_12 : decode cX12_shown 12 = .ok (.aload_n 0, 1) := by decide +kernel
theorem dX12_shown_13 : decode cX12_shown 13 = .ok (.getfield 249, 3) := by decide +kernel
theorem dX12_shown_16 : decode cX12_shown 16 = .ok (.ifCond .le 31, 3) := by decide +kernel
theorem dX12_shown_19 : decode cX12_shown 19 = .ok (.aload_n 0, 1) := by decide +kernel
theorem dX12_shown_20 : decode cX12_shown 20 = .ok (.getfield 100, 3) := by decide +kernel
theorem dX12_shown_23 : decode cX12_shown 23 = .ok (.aload_n 0, 1) := by decide +kernel
theorem dX12_shown_24 : decode cX12_shown 24 = .ok (.getfield 249, 3) := by decide +kernel
theorem dX12_shown_27 : decode cX12_shown 27 = .ok (.iconst 1, 1) := by decide +kernel
theorem dX12_shown_28 : decode cX12_shown 28 = .ok (.isub, 1) := by decide +kernel
theorem dX12_shown_29 : decode cX12_shown 29 = .ok (.invokestatic 332, 3) := by decide +kernel
theorem dX12_shown_32 : decode cX12_shown 32 = .ok (.iload_n 2, 1) := by decide +kernel
theorem dX12_shown_33 : decode cX12_shown 33 = .ok (.iadd, 1) := by decide +kernel
theorem dX12_shown_34 : decode cX12_shown 34 = .ok (.baload, 1) := by decide +kernel
theorem dX12_shown_35 : decode cX12_shown 35 = .ok (.ifCond .eq 6, 3) := by decide +kernel
theorem dX12_shown_38 : decode cX12_shown 38 = .ok (.iinc 1 1, 3) := by decide +kernel
theorem dX12_shown_41 : decode cX12_shown 41 = .ok (.iinc 2 1, 3) := by decide +kernel
theorem dX12_shown_44 : decode cX12_shown 44 = .ok (.goto (-40), 3) := by decide +kernel
theorem dX12_shown_47 : decode cX12_shown 47 = .ok (.iload_n 1, 1) := by decide +kernel
theorem dX12_shown_48 : decode cX12_shown 48 = .ok (.ireturn, 1) := by decide +kernel
theorem dX12_greatestWorst_0 : decode cX12_greatestWorst 0 = .ok (.iconst 0, 1) := by decide +kernel
theorem dX12_greatestWorst_1 : decode cX12_greatestWorst 1 = .ok (.istore_n 1, 1) := by decide +kernel
theorem dX12_greatestWorst_2 : decode cX12_greatestWorst 2 = .ok (.iconst 0, 1) := by decide +kernel
theorem dX12_greatestWorst_3 : decode cX12_greatestWorst 3 = .ok (.istore_n 2, 1) := by decide +kernel
theorem dX12_greatestWorst_4 : decode cX12_greatestWorst 4 = .ok (.iload_n 2, 1) := by decide +kernel
theorem dX12_greatestWorst_5 : decode cX12_greatestWorst 5 = .ok (.aload_n 0, 1) := by decide +kernel
theorem dX12_greatestWorst_6 : decode cX12_greatestWorst 6 = .ok (.getfield 243, 3) := by decide +kernel
theorem dX12_greatestWorst_9 : decode cX12_greatestWorst 9 = .ok (.if_icmp .ge 36, 3) := by decide +kernel
theorem dX12_greatestWorst_12 : decode cX12_greatestWorst 12 = .ok (.aload_n 0, 1) := by decide +kernel
theorem dX12_greatestWorst_13 : decode cX12_greatestWorst 13 = .ok (.getfield 249, 3) := by decide +kernel
theorem dX12_greatestWorst_16 : decode cX12_greatestWorst 16 = .ok (.ifCond .le 29, 3) := by decide +kernel
theorem dX12_greatestWorst_19 : decode cX12_greatestWorst 19 = .ok (.aload_n 0, 1) := by decide +kernel
theorem dX12_greatestWorst_20 : decode cX12_greatestWorst 20 = .ok (.getfield 30, 3) := by decide +kernel
theorem dX12_greatestWorst_23 : decode cX12_greatestWorst 23 = .ok (.iload_n 2, 1) := by decide +kernel
theorem dX12_greatestWorst_24 : decode cX12_greatestWorst 24 = .ok (.baload, 1) := by decide +kernel
theorem dX12_greatestWorst_25 : decode cX12_greatestWorst 25 = .ok (.ifCond .eq 14, 3) := by decide +kernel
theorem dX12_greatestWorst_28 : decode cX12_greatestWorst 28 = .ok (.iload_n 1, 1) := by decide +kernel
theorem dX12_greatestWorst_29 : decode cX12_greatestWorst 29 = .ok (.aload_n 0, 1) := by decide +kernel
theorem dX12_greatestWorst_30 : decode cX12_greatestWorst 30 = .ok (.getfield 121, 3) := by decide +kernel
theorem dX12_greatestWorst_33 : decode cX12_greatestWorst 33 = .ok (.iload_n 2, 1) := by decide +kernel
theorem dX12_greatestWorst_34 : decode cX12_greatestWorst 34 = .ok (.iaload, 1) := by decide +kernel
theorem dX12_greatestWorst_35 : decode cX12_greatestWorst 35 = .ok (.invokestatic 268, 3) := by decide +kernel
theorem dX12_greatestWorst_38 : decode cX12_greatestWorst 38 = .ok (.istore_n 1, 1) := by decide +kernel
theorem dX12_greatestWorst_39 : decode cX12_greatestWorst 39 = .ok (.iinc 2 1, 3) := by decide +kernel
theorem dX12_greatestWorst_42 : decode cX12_greatestWorst 42 = .ok (.goto (-38), 3) := by decide +kernel
theorem dX12_greatestWorst_45 : decode cX12_greatestWorst 45 = .ok (.iload_n 1, 1) := by decide +kernel
theorem dX12_greatestWorst_46 : decode cX12_greatestWorst 46 = .ok (.ireturn, 1) := by decide +kernel
theorem dX12_count_0 : decode cX12_count 0 = .ok (.aload_n 0, 1) := by decide +kernel
theorem dX12_count_1 : decode cX12_count 1 = .ok (.iconst 0, 1) := by decide +kernel
theorem dX12_count_2 : decode cX12_count 2 = .ok (.putfield 1, 3) := by decide +kernel
theorem dX12_count_5 : decode cX12_count 5 = .ok (.iload_n 1, 1) := by decide +kernel
theorem dX12_count_6 : decode cX12_count 6 = .ok (.tableswitch 77 0 6 #[42, 47, 52, 57, 62, 67, 72], 42) := by decide +kernel
theorem dX12_count_48 : decode cX12_count 48 = .ok (.aload_n 0, 1) := by decide +kernel
theorem dX12_count_49 : decode cX12_count 49 = .ok (.getfield 243, 3) := by decide +kernel
theorem dX12_count_52 : decode cX12_count 52 = .ok (.ireturn, 1) := by decide +kernel
theorem dX12_count_53 : decode cX12_count 53 = .ok (.aload_n 0, 1) := by decide +kernel
theorem dX12_count_54 : decode cX12_count 54 = .ok (.invokevirtual 362, 3) := by decide +kernel
theorem dX12_count_57 : decode cX12_count 57 = .ok (.ireturn, 1) := by decide +kernel
theorem dX12_count_58 : decode cX12_count 58 = .ok (.aload_n 0, 1) := by decide +kernel
theorem dX12_count_59 : decode cX12_count 59 = .ok (.getfield 246, 3) := by decide +kernel
theorem dX12_count_62 : decode cX12_count 62 = .ok (.ireturn, 1) := by decide +kernel
theorem dX12_count_63 : decode cX12_count 63 = .ok (.aload_n 0, 1) := by decide +kernel
theorem dX12_count_64 : decode cX12_count 64 = .ok (.getfield 249, 3) := by decide +kernel
theorem dX12_count_67 : decode cX12_count 67 = .ok (.ireturn, 1) := by decide +kernel
theorem dX12_count_68 : decode cX12_count 68 = .ok (.aload_n 0, 1) := by decide +kernel
theorem dX12_count_69 : decode cX12_count 69 = .ok (.getfield 149, 3) := by decide +kernel
theorem dX12_count_72 : decode cX12_count 72 = .ok (.ireturn, 1) := by decide +kernel
theorem dX12_count_73 : decode cX12_count 73 = .ok (.aload_n 0, 1) := by decide +kernel
theorem dX12_count_74 : decode cX12_count 74 = .ok (.invokevirtual 365, 3) := by decide +kernel
theorem dX12_count_77 : decode cX12_count 77 = .ok (.ireturn, 1) := by decide +kernel
theorem dX12_count_78 : decode cX12_count 78 = .ok (.aload_n 0, 1) := by decide +kernel
theorem dX12_count_79 : decode cX12_count 79 = .ok (.invokevirtual 368, 3) := by decide +kernel
theorem dX12_count_82 : decode cX12_count 82 = .ok (.ireturn, 1) := by decide +kernel
theorem dX12_count_83 : decode cX12_count 83 = .ok (.iconst (-1), 1) := by decide +kernel
theorem dX12_count_84 : decode cX12_count 84 = .ok (.ireturn, 1) := by decide +kernel

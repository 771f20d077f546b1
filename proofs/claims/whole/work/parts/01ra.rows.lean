theorem dX12_thrown_0 : decode cX12_thrown 0 = .ok (.aload_n 0, 1) := by decide +kernel
theorem dX12_thrown_1 : decode cX12_thrown 1 = .ok (.getfield 1, 3) := by decide +kernel
theorem dX12_thrown_4 : decode cX12_thrown 4 = .ok (.ireturn, 1) := by decide +kernel
theorem dX12_within_0 : decode cX12_within 0 = .ok (.iload_n 0, 1) := by decide +kernel
theorem dX12_within_1 : decode cX12_within 1 = .ok (.iload_n 1, 1) := by decide +kernel
theorem dX12_within_2 : decode cX12_within 2 = .ok (.if_icmp .lt 12, 3) := by decide +kernel
theorem dX12_within_5 : decode cX12_within 5 = .ok (.iload_n 0, 1) := by decide +kernel
theorem dX12_within_6 : decode cX12_within 6 = .ok (.iload_n 2, 1) := by decide +kernel
theorem dX12_within_7 : decode cX12_within 7 = .ok (.if_icmp .gt 7, 3) := by decide +kernel
theorem dX12_within_10 : decode cX12_within 10 = .ok (.iconst 1, 1) := by decide +kernel
theorem dX12_within_11 : decode cX12_within 11 = .ok (.goto 4, 3) := by decide +kernel
theorem dX12_within_14 : decode cX12_within 14 = .ok (.iconst 0, 1) := by decide +kernel
theorem dX12_within_15 : decode cX12_within 15 = .ok (.ireturn, 1) := by decide +kernel
theorem dX12_init_0 : decode cX12_init 0 = .ok (.aload_n 0, 1) := by decide +kernel
theorem dX12_init_1 : decode cX12_init 1 = .ok (.invokespecial 7, 3) := by decide +kernel
theorem dX12_init_4 : decode cX12_init 4 = .ok (.aload_n 0, 1) := by decide +kernel
theorem dX12_init_5 : decode cX12_init 5 = .ok (.sipush 600, 3) := by decide +kernel
theorem dX12_init_8 : decode cX12_init 8 = .ok (.putfield 13, 3) := by decide +kernel
theorem dX12_init_11 : decode cX12_init 11 = .ok (.aload_n 0, 1) := by decide +kernel
theorem dX12_init_12 : decode cX12_init 12 = .ok (.sipush 400, 3) := by decide +kernel
theorem dX12_init_15 : decode cX12_init 15 = .ok (.putfield 16, 3) := by decide +kernel
theorem dX12_init_18 : decode cX12_init 18 = .ok (.aload_n 0, 1) := by decide +kernel
theorem dX12_init_19 : decode cX12_init 19 = .ok (.sipush 1000, 3) := by decide +kernel
theorem dX12_init_22 : decode cX12_init 22 = .ok (.newarray .byte, 2) := by decide +kernel
theorem dX12_init_24 : decode cX12_init 24 = .ok (.putfield 19, 3) := by decide +kernel
theorem dX12_init_27 : decode cX12_init 27 = .ok (.aload_n 0, 1) := by decide +kernel
theorem dX12_init_28 : decode cX12_init 28 = .ok (.iconst (-1), 1) := by decide +kernel
theorem dX12_init_29 : decode cX12_init 29 = .ok (.putfield 23, 3) := by decide +kernel
theorem dX12_init_32 : decode cX12_init 32 = .ok (.aload_n 0, 1) := by decide +kernel
theorem dX12_init_33 : decode cX12_init 33 = .ok (.bipush 82, 2) := by decide +kernel
theorem dX12_init_35 : decode cX12_init 35 = .ok (.newarray .int, 2) := by decide +kernel
theorem dX12_init_37 : decode cX12_init 37 = .ok (.putfield 26, 3) := by decide +kernel
theorem dX12_init_40 : decode cX12_init 40 = .ok (.aload_n 0, 1) := by decide +kernel
theorem dX12_init_41 : decode cX12_init 41 = .ok (.bipush 82, 2) := by decide +kernel
theorem dX12_init_43 : decode cX12_init 43 = .ok (.newarray .boolean, 2) := by decide +kernel
theorem dX12_init_45 : decode cX12_init 45 = .ok (.putfield 30, 3) := by decide +kernel
theorem dX12_init_48 : decode cX12_init 48 = .ok (.aload_n 0, 1) := by decide +kernel
theorem dX12_init_49 : decode cX12_init 49 = .ok (.bipush 82, 2) := by decide +kernel
theorem dX12_init_51 : decode cX12_init 51 = .ok (.newarray .int, 2) := by decide +kernel
theorem dX12_init_53 : decode cX12_init 53 = .ok (.putfield 34, 3) := by decide +kernel
theorem dX12_init_56 : decode cX12_init 56 = .ok (.aload_n 0, 1) := by decide +kernel
theorem dX12_init_57 : decode cX12_init 57 = .ok (.bipush 82, 2) := by decide +kernel
theorem dX12_init_59 : decode cX12_init 59 = .ok (.newarray .int, 2) := by decide +kernel
theorem dX12_init_61 : decode cX12_init 61 = .ok (.putfield 37, 3) := by decide +kernel
theorem dX12_init_64 : decode cX12_init 64 = .ok (.aload_n 0, 1) := by decide +kernel
theorem dX12_init_65 : decode cX12_init 65 = .ok (.bipush 82, 2) := by decide +kernel
theorem dX12_init_67 : decode cX12_init 67 = .ok (.newarray .int, 2) := by decide +kernel
theorem dX12_init_69 : decode cX12_init 69 = .ok (.putfield 40, 3) := by decide +kernel
theorem dX12_init_72 : decode cX12_init 72 = .ok (.aload_n 0, 1) := by decide +kernel
theorem dX12_init_73 : decode cX12_init 73 = .ok (.bipush 82, 2) := by decide +kernel
theorem dX12_init_75 : decode cX12_init 75 = .ok (.newarray .boolean, 2) := by decide +kernel
theorem dX12_init_77 : decode cX12_init 77 = .ok (.putfield 43, 3) := by decide +kernel
theorem dX12_init_80 : decode cX12_init 80 = .ok (.aload_n 0, 1) := by decide +kernel
theorem dX12_init_81 : decode cX12_init 81 = .ok (.bipush 82, 2) := by decide +kernel
theorem dX12_init_83 : decode cX12_init 83 = .ok (.newarray .int, 2) := by decide +kernel
theorem dX12_init_85 : decode cX12_init 85 = .ok (.putfield 46, 3) := by decide +kernel
theorem dX12_init_88 : decode cX12_init 88 = .ok (.aload_n 0, 1) := by decide +kernel
theorem dX12_init_89 : decode cX12_init 89 = .ok (.bipush 82, 2) := by decide +kernel
theorem dX12_init_91 : decode cX12_init 91 = .ok (.newarray .int, 2) := by decide +kernel
theorem dX12_init_93 : decode cX12_init 93 = .ok (.putfield 49, 3) := by decide +kernel
theorem dX12_init_96 : decode cX12_init 96 = .ok (.aload_n 0, 1) := by decide +kernel
theorem dX12_init_97 : decode cX12_init 97 = .ok (.sipush 656, 3) := by decide +kernel
theorem dX12_init_100 : decode cX12_init 100 = .ok (.newarray .byte, 2) := by decide +kernel
theorem dX12_init_102 : decode cX12_init 102 = .ok (.putfield 52, 3) := by decide +kernel
theorem dX12_init_105 : decode cX12_init 105 = .ok (.aload_n 0, 1) := by decide +kernel
theorem dX12_init_106 : decode cX12_init 106 = .ok (.bipush 100, 2) := by decide +kernel
theorem dX12_init_108 : decode cX12_init 108 = .ok (.newarray .int, 2) := by decide +kernel
theorem dX12_init_110 : decode cX12_init 110 = .ok (.putfield 55, 3) := by decide +kernel
theorem dX12_init_113 : decode cX12_init 113 = .ok (.aload_n 0, 1) := by decide +kernel
theorem dX12_init_114 : decode cX12_init 114 = .ok (.bipush 100, 2) := by decide +kernel
theorem dX12_init_116 : decode cX12_init 116 = .ok (.newarray .int, 2) := by decide +kernel
theorem dX12_init_118 : decode cX12_init 118 = .ok (.putfield 58, 3) := by decide +kernel
theorem dX12_init_121 : decode cX12_init 121 = .ok (.aload_n 0, 1) := by decide +kernel
theorem dX12_init_122 : decode cX12_init 122 = .ok (.bipush 100, 2) := by decide +kernel
theorem dX12_init_124 : decode cX12_init 124 = .ok (.newarray .int, 2) := by decide +kernel
theorem dX12_init_126 : decode cX12_init 126 = .ok (.putfield 61, 3) := by decide +kernel
theorem dX12_init_129 : decode cX12_init 129 = .ok (.aload_n 0, 1) := by decide +kernel
theorem dX12_init_130 : decode cX12_init 130 = .ok (.bipush 41, 2) := by decide +kernel
theorem dX12_init_132 : decode cX12_init 132 = .ok (.newarray .int, 2) := by decide +kernel
theorem dX12_init_134 : decode cX12_init 134 = .ok (.putfield 64, 3) := by decide +kernel
theorem dX12_init_137 : decode cX12_init 137 = .ok (.aload_n 0, 1) := by decide +kernel
theorem dX12_init_138 : decode cX12_init 138 = .ok (.bipush 41, 2) := by decide +kernel
theorem dX12_init_140 : decode cX12_init 140 = .ok (.newarray .boolean, 2) := by decide +kernel
theorem dX12_init_142 : decode cX12_init 142 = .ok (.putfield 67, 3) := by decide +kernel
theorem dX12_init_145 : decode cX12_init 145 = .ok (.aload_n 0, 1) := by decide +kernel
theorem dX12_init_146 : decode cX12_init 146 = .ok (.bipush 9, 2) := by decide +kernel
theorem dX12_init_148 : decode cX12_init 148 = .ok (.newarray .int, 2) := by decide +kernel
theorem dX12_init_150 : decode cX12_init 150 = .ok (.putfield 70, 3) := by decide +kernel
theorem dX12_init_153 : decode cX12_init 153 = .ok (.aload_n 0, 1) := by decide +kernel
theorem dX12_init_154 : decode cX12_init 154 = .ok (.bipush 9, 2) := by decide +kernel
theorem dX12_init_156 : decode cX12_init 156 = .ok (.newarray .int, 2) := by decide +kernel
theorem dX12_init_158 : decode cX12_init 158 = .ok (.putfield 73, 3) := by decide +kernel
theorem dX12_init_161 : decode cX12_init 161 = .ok (.aload_n 0, 1) := by decide +kernel
theorem dX12_init_162 : decode cX12_init 162 = .ok (.bipush 9, 2) := by decide +kernel
theorem dX12_init_164 : decode cX12_init 164 = .ok (.newarray .int, 2) := by decide +kernel
theorem dX12_init_166 : decode cX12_init 166 = .ok (.putfield 76, 3) := by decide +kernel
theorem dX12_init_169 : decode cX12_init 169 = .ok (.aload_n 0, 1) := by decide +kernel
theorem dX12_init_170 : decode cX12_init 170 = .ok (.bipush 9, 2) := by decide +kernel
theorem dX12_init_172 : decode cX12_init 172 = .ok (.newarray .int, 2) := by decide +kernel
theorem dX12_init_174 : decode cX12_init 174 = .ok (.putfield 79, 3) := by decide +kernel
theorem dX12_init_177 : decode cX12_init 177 = .ok (.aload_n 0, 1) := by decide +kernel
theorem dX12_init_178 : decode cX12_init 178 = .ok (.bipush 9, 2) := by decide +kernel
theorem dX12_init_180 : decode cX12_init 180 = .ok (.newarray .int, 2) := by decide +kernel
theorem dX12_init_182 : decode cX12_init 182 = .ok (.putfield 82, 3) := by decide +kernel
theorem dX12_init_185 : decode cX12_init 185 = .ok (.aload_n 0, 1) := by decide +kernel
theorem dX12_init_186 : decode cX12_init 186 = .ok (.bipush 9, 2) := by decide +kernel
theorem dX12_init_188 : decode cX12_init 188 = .ok (.newarray .int, 2) := by decide +kernel
theorem dX12_init_190 : decode cX12_init 190 = .ok (.putfield 85, 3) := by decide +kernel
theorem dX12_init_193 : decode cX12_init 193 = .ok (.aload_n 0, 1) := by decide +kernel
theorem dX12_init_194 : decode cX12_init 194 = .ok (.bipush 9, 2) := by decide +kernel
theorem dX12_init_196 : decode cX12_init 196 = .ok (.newarray .int, 2) := by decide +kernel
theorem dX12_init_198 : decode cX12_init 198 = .ok (.putfield 88, 3) := by decide +kernel
theorem dX12_init_201 : decode cX12_init 201 = .ok (.aload_n 0, 1) := by decide +kernel
theorem dX12_init_202 : decode cX12_init 202 = .ok (.bipush 10, 2) := by decide +kernel
theorem dX12_init_204 : decode cX12_init 204 = .ok (.newarray .int, 2) := by decide +kernel
theorem dX12_init_206 : decode cX12_init 206 = .ok (.putfield 91, 3) := by decide +kernel
theorem dX12_init_209 : decode cX12_init 209 = .ok (.aload_n 0, 1) := by decide +kernel
theorem dX12_init_210 : decode cX12_init 210 = .ok (.bipush 10, 2) := by decide +kernel
theorem dX12_init_212 : decode cX12_init 212 = .ok (.newarray .int, 2) := by decide +kernel
theorem dX12_init_214 : decode cX12_init 214 = .ok (.putfield 94, 3) := by decide +kernel
theorem dX12_init_217 : decode cX12_init 217 = .ok (.aload_n 0, 1) := by decide +kernel
theorem dX12_init_218 : decode cX12_init 218 = .ok (.bipush 51, 2) := by decide +kernel
theorem dX12_init_220 : decode cX12_init 220 = .ok (.newarray .int, 2) := by decide +kernel
theorem dX12_init_222 : decode cX12_init 222 = .ok (.putfield 97, 3) := by decide +kernel
theorem dX12_init_225 : decode cX12_init 225 = .ok (.aload_n 0, 1) := by decide +kernel
theorem dX12_init_226 : decode cX12_init 226 = .ok (.sipush 2091, 3) := by decide +kernel
theorem dX12_init_229 : decode cX12_init 229 = .ok (.newarray .boolean, 2) := by decide +kernel
theorem dX12_init_231 : decode cX12_init 231 = .ok (.putfield 100, 3) := by decide +kernel
theorem dX12_init_234 : decode cX12_init 234 = .ok (.aload_n 0, 1) := by decide +kernel
theorem dX12_init_235 : decode cX12_init 235 = .ok (.sipush 2091, 3) := by decide +kernel
theorem dX12_init_238 : decode cX12_init 238 = .ok (.newarray .int, 2) := by decide +kernel
theorem dX12_init_240 : decode cX12_init 240 = .ok (.putfield 103, 3) := by decide +kernel
theorem dX12_init_243 : decode cX12_init 243 = .ok (.aload_n 0, 1) := by decide +kernel
theorem dX12_init_244 : decode cX12_init 244 = .ok (.sipush 2091, 3) := by decide +kernel
theorem dX12_init_247 : decode cX12_init 247 = .ok (.newarray .int, 2) := by decide +kernel
theorem dX12_init_249 : decode cX12_init 249 = .ok (.putfield 106, 3) := by decide +kernel
theorem dX12_init_252 : decode cX12_init 252 = .ok (.aload_n 0, 1) := by decide +kernel
theorem dX12_init_253 : decode cX12_init 253 = .ok (.sipush 2091, 3) := by decide +kernel
theorem dX12_init_256 : decode cX12_init 256 = .ok (.newarray .int, 2) := by decide +kernel
theorem dX12_init_258 : decode cX12_init 258 = .ok (.putfield 109, 3) := by decide +kernel
theorem dX12_init_261 : decode cX12_init 261 = .ok (.aload_n 0, 1) := by decide +kernel
theorem dX12_init_262 : decode cX12_init 262 = .ok (.sipush 2091, 3) := by decide +kernel
theorem dX12_init_265 : decode cX12_init 265 = .ok (.newarray .int, 2) := by decide +kernel
theorem dX12_init_267 : decode cX12_init 267 = .ok (.putfield 112, 3) := by decide +kernel
theorem dX12_init_270 : decode cX12_init 270 = .ok (.aload_n 0, 1) := by decide +kernel
theorem dX12_init_271 : decode cX12_init 271 = .ok (.sipush 2091, 3) := by decide +kernel
theorem dX12_init_274 : decode cX12_init 274 = .ok (.newarray .int, 2) := by decide +kernel
theorem dX12_init_276 : decode cX12_init 276 = .ok (.putfield 115, 3) := by decide +kernel
theorem dX12_init_279 : decode cX12_init 279 = .ok (.aload_n 0, 1) := by decide +kernel
theorem dX12_init_280 : decode cX12_init 280 = .ok (.bipush 41, 2) := by decide +kernel
theorem dX12_init_282 : decode cX12_init 282 = .ok (.newarray .int, 2) := by decide +kernel
theorem dX12_init_284 : decode cX12_init 284 = .ok (.putfield 118, 3) := by decide +kernel
theorem dX12_init_287 : decode cX12_init 287 = .ok (.aload_n 0, 1) := by decide +kernel
theorem dX12_init_288 : decode cX12_init 288 = .ok (.bipush 41, 2) := by decide +kernel
theorem dX12_init_290 : decode cX12_init 290 = .ok (.newarray .int, 2) := by decide +kernel
theorem dX12_init_292 : decode cX12_init 292 = .ok (.putfield 121, 3) := by decide +kernel
theorem dX12_init_295 : decode cX12_init 295 = .ok (.aload_n 0, 1) := by decide +kernel
theorem dX12_init_296 : decode cX12_init 296 = .ok (.bipush 41, 2) := by decide +kernel
theorem dX12_init_298 : decode cX12_init 298 = .ok (.newarray .int, 2) := by decide +kernel
theorem dX12_init_300 : decode cX12_init 300 = .ok (.putfield 124, 3) := by decide +kernel
theorem dX12_init_303 : decode cX12_init 303 = .ok (.aload_n 0, 1) := by decide +kernel
theorem dX12_init_304 : decode cX12_init 304 = .ok (.bipush 41, 2) := by decide +kernel
theorem dX12_init_306 : decode cX12_init 306 = .ok (.newarray .int, 2) := by decide +kernel
theorem dX12_init_308 : decode cX12_init 308 = .ok (.putfield 127, 3) := by decide +kernel
theorem dX12_init_311 : decode cX12_init 311 = .ok (.aload_n 0, 1) := by decide +kernel
theorem dX12_init_312 : decode cX12_init 312 = .ok (.bipush 41, 2) := by decide +kernel
theorem dX12_init_314 : decode cX12_init 314 = .ok (.newarray .int, 2) := by decide +kernel
theorem dX12_init_316 : decode cX12_init 316 = .ok (.putfield 130, 3) := by decide +kernel
theorem dX12_init_319 : decode cX12_init 319 = .ok (.aload_n 0, 1) := by decide +kernel
theorem dX12_init_320 : decode cX12_init 320 = .ok (.bipush 41, 2) := by decide +kernel
theorem dX12_init_322 : decode cX12_init 322 = .ok (.newarray .int, 2) := by decide +kernel
theorem dX12_init_324 : decode cX12_init 324 = .ok (.putfield 133, 3) := by decide +kernel
theorem dX12_init_327 : decode cX12_init 327 = .ok (.aload_n 0, 1) := by decide +kernel
theorem dX12_init_328 : decode cX12_init 328 = .ok (.bipush 41, 2) := by decide +kernel
theorem dX12_init_330 : decode cX12_init 330 = .ok (.newarray .int, 2) := by decide +kernel
theorem dX12_init_332 : decode cX12_init 332 = .ok (.putfield 136, 3) := by decide +kernel
theorem dX12_init_335 : decode cX12_init 335 = .ok (.aload_n 0, 1) := by decide +kernel
theorem dX12_init_336 : decode cX12_init 336 = .ok (.bipush 41, 2) := by decide +kernel
theorem dX12_init_338 : decode cX12_init 338 = .ok (.newarray .int, 2) := by decide +kernel
theorem dX12_init_340 : decode cX12_init 340 = .ok (.putfield 139, 3) := by decide +kernel
theorem dX12_init_343 : decode cX12_init 343 = .ok (.return_, 1) := by decide +kernel
theorem dX12_sheet_0 : decode cX12_sheet 0 = .ok (.aload_n 0, 1) := by decide +kernel
theorem dX12_sheet_1 : decode cX12_sheet 1 = .ok (.iconst 0, 1) := by decide +kernel
theorem dX12_sheet_2 : decode cX12_sheet 2 = .ok (.putfield 1, 3) := by decide +kernel
theorem dX12_sheet_5 : decode cX12_sheet 5 = .ok (.iload_n 1, 1) := by decide +kernel
theorem dX12_sheet_6 : decode cX12_sheet 6 = .ok (.iconst 1, 1) := by decide +kernel
theorem dX12_sheet_7 : decode cX12_sheet 7 = .ok (.sipush 3000, 3) := by decide +kernel
theorem dX12_sheet_10 : decode cX12_sheet 10 = .ok (.invokestatic 142, 3) := by decide +kernel
theorem dX12_sheet_13 : decode cX12_sheet 13 = .ok (.ifCond .eq 14, 3) := by decide +kernel
theorem dX12_sheet_16 : decode cX12_sheet 16 = .ok (.iload_n 2, 1) := by decide +kernel
theorem dX12_sheet_17 : decode cX12_sheet 17 = .ok (.iconst 1, 1) := by decide +kernel
theorem dX12_sheet_18 : decode cX12_sheet 18 = .ok (.sipush 3000, 3) := by decide +kernel
theorem dX12_sheet_21 : decode cX12_sheet 21 = .ok (.invokestatic 142, 3) := by decide +kernel
theorem dX12_sheet_24 : decode cX12_sheet 24 = .ok (.ifCond .ne 5, 3) := by decide +kernel
theorem dX12_sheet_27 : decode cX12_sheet 27 = .ok (.iconst 0, 1) := by decide +kernel
theorem dX12_sheet_28 : decode cX12_sheet 28 = .ok (.ireturn, 1) := by decide +kernel
theorem dX12_sheet_29 : decode cX12_sheet 29 = .ok (.aload_n 0, 1) := by decide +kernel
theorem dX12_sheet_30 : decode cX12_sheet 30 = .ok (.iload_n 1, 1) := by decide +kernel
theorem dX12_sheet_31 : decode cX12_sheet 31 = .ok (.putfield 13, 3) := by decide +kernel
theorem dX12_sheet_34 : decode cX12_sheet 34 = .ok (.aload_n 0, 1) := by decide +kernel
theorem dX12_sheet_35 : decode cX12_sheet 35 = .ok (.iload_n 2, 1) := by decide +kernel
theorem dX12_sheet_36 : decode cX12_sheet 36 = .ok (.putfield 16, 3) := by decide +kernel
theorem dX12_sheet_39 : decode cX12_sheet 39 = .ok (.iconst 1, 1) := by decide +kernel
theorem dX12_sheet_40 : decode cX12_sheet 40 = .ok (.ireturn, 1) := by decide +kernel
theorem dX12_price_0 : decode cX12_price 0 = .ok (.aload_n 0, 1) := by decide +kernel
theorem dX12_price_1 : decode cX12_price 1 = .ok (.iconst 0, 1) := by decide +kernel
theorem dX12_price_2 : decode cX12_price 2 = .ok (.putfield 1, 3) := by decide +kernel
theorem dX12_price_5 : decode cX12_price 5 = .ok (.iload_n 1, 1) := by decide +kernel
theorem dX12_price_6 : decode cX12_price 6 = .ok (.iconst 0, 1) := by decide +kernel
theorem dX12_price_7 : decode cX12_price 7 = .ok (.sipush 1000, 3) := by decide +kernel
theorem dX12_price_10 : decode cX12_price 10 = .ok (.invokestatic 142, 3) := by decide +kernel
theorem dX12_price_13 : decode cX12_price 13 = .ok (.ifCond .ne 5, 3) := by decide +kernel
theorem dX12_price_16 : decode cX12_price 16 = .ok (.iconst 0, 1) := by decide +kernel
theorem dX12_price_17 : decode cX12_price 17 = .ok (.ireturn, 1) := by decide +kernel
theorem dX12_price_18 : decode cX12_price 18 = .ok (.aload_n 0, 1) := by decide +kernel
theorem dX12_price_19 : decode cX12_price 19 = .ok (.iload_n 1, 1) := by decide +kernel
theorem dX12_price_20 : decode cX12_price 20 = .ok (.putfield 146, 3) := by decide +kernel
theorem dX12_price_23 : decode cX12_price 23 = .ok (.iconst 1, 1) := by decide +kernel
theorem dX12_price_24 : decode cX12_price 24 = .ok (.ireturn, 1) := by decide +kernel
theorem dX12_feed_0 : decode cX12_feed 0 = .ok (.aload_n 0, 1) := by decide +kernel
theorem dX12_feed_1 : decode cX12_feed 1 = .ok (.iconst 0, 1) := by decide +kernel
theorem dX12_feed_2 : decode cX12_feed 2 = .ok (.putfield 1, 3) := by decide +kernel
theorem dX12_feed_5 : decode cX12_feed 5 = .ok (.aload_n 0, 1) := by decide +kernel
theorem dX12_feed_6 : decode cX12_feed 6 = .ok (.getfield 149, 3) := by decide +kernel
theorem dX12_feed_9 : decode cX12_feed 9 = .ok (.bipush 20, 2) := by decide +kernel
theorem dX12_feed_11 : decode cX12_feed 11 = .ok (.iadd, 1) := by decide +kernel
theorem dX12_feed_12 : decode cX12_feed 12 = .ok (.sipush 1000, 3) := by decide +kernel
theorem dX12_feed_15 : decode cX12_feed 15 = .ok (.if_icmp .le 5, 3) := by decide +kernel
theorem dX12_feed_18 : decode cX12_feed 18 = .ok (.iconst (-1), 1) := by decide +kernel
theorem dX12_feed_19 : decode cX12_feed 19 = .ok (.ireturn, 1) := by decide +kernel
theorem dX12_feed_20 : decode cX12_feed 20 = .ok (.iconst 0, 1) := by decide +kernel
theorem dX12_feed_21 : decode cX12_feed 21 = .ok (.istore 6, 2) := by decide +kernel
theorem dX12_feed_23 : decode cX12_feed 23 = .ok (.iload 6, 2) := by decide +kernel
theorem dX12_feed_25 : decode cX12_feed 25 = .ok (.bipush 20, 2) := by decide +kernel
theorem dX12_feed_27 : decode cX12_feed 27 = .ok (.if_icmp .ge 90, 3) := by decide +kernel
theorem dX12_feed_30 : decode cX12_feed 30 = .ok (.iload 6, 2) := by decide +kernel
theorem dX12_feed_32 : decode cX12_feed 32 = .ok (.iconst 4, 1) := by decide +kernel
theorem dX12_feed_33 : decode cX12_feed 33 = .ok (.if_icmp .ge 7, 3) := by decide +kernel
theorem dX12_feed_36 : decode cX12_feed 36 = .ok (.iload_n 1, 1) := by decide +kernel
theorem dX12_feed_37 : decode cX12_feed 37 = .ok (.goto 39, 3) := by decide +kernel
theorem dX12_feed_40 : decode cX12_feed 40 = .ok (.iload 6, 2) := by decide +kernel
theorem dX12_feed_42 : decode cX12_feed 42 = .ok (.bipush 8, 2) := by decide +kernel
theorem dX12_feed_44 : decode cX12_feed 44 = .ok (.if_icmp .ge 7, 3) := by decide +kernel
theorem dX12_feed_47 : decode cX12_feed 47 = .ok (.iload_n 2, 1) := by decide +kernel
theorem dX12_feed_48 : decode cX12_feed 48 = .ok (.goto 28, 3) := by decide +kernel
theorem dX12_feed_51 : decode cX12_feed 51 = .ok (.iload 6, 2) := by decide +kernel
theorem dX12_feed_53 : decode cX12_feed 53 = .ok (.bipush 12, 2) := by decide +kernel
theorem dX12_feed_55 : decode cX12_feed 55 = .ok (.if_icmp .ge 7, 3) := by decide +kernel
theorem dX12_feed_58 : decode cX12_feed 58 = .ok (.iload_n 3, 1) := by decide +kernel
theorem dX12_feed_59 : decode cX12_feed 59 = .ok (.goto 17, 3) := by decide +kernel
theorem dX12_feed_62 : decode cX12_feed 62 = .ok (.iload 6, 2) := by decide +kernel
theorem dX12_feed_64 : decode cX12_feed 64 = .ok (.bipush 16, 2) := by decide +kernel
theorem dX12_feed_66 : decode cX12_feed 66 = .ok (.if_icmp .ge 8, 3) := by decide +kernel
theorem dX12_feed_69 : decode cX12_feed 69 = .ok (.iload 4, 2) := by decide +kernel
theorem dX12_feed_71 : decode cX12_feed 71 = .ok (.goto 5, 3) := by decide +kernel
theorem dX12_feed_74 : decode cX12_feed 74 = .ok (.iload 5, 2) := by decide +kernel
theorem dX12_feed_76 : decode cX12_feed 76 = .ok (.istore 7, 2) := by decide +kernel
theorem dX12_feed_78 : decode cX12_feed 78 = .ok (.aload_n 0, 1) := by decide +kernel
theorem dX12_feed_79 : decode cX12_feed 79 = .ok (.getfield 19, 3) := by decide +kernel
theorem dX12_feed_82 : decode cX12_feed 82 = .ok (.aload_n 0, 1) := by decide +kernel
theorem dX12_feed_83 : decode cX12_feed 83 = .ok (.getfield 149, 3) := by decide +kernel
theorem dX12_feed_86 : decode cX12_feed 86 = .ok (.iload 7, 2) := by decide +kernel
theorem dX12_feed_88 : decode cX12_feed 88 = .ok (.bipush 24, 2) := by decide +kernel
theorem dX12_feed_90 : decode cX12_feed 90 = .ok (.bipush 8, 2) := by decide +kernel
theorem dX12_feed_92 : decode cX12_feed 92 = .ok (.iload 6, 2) := by decide +kernel
theorem dX12_feed_94 : decode cX12_feed 94 = .ok (.iconst 4, 1) := by decide +kernel
theorem dX12_feed_95 : decode cX12_feed 95 = .ok (.irem, 1) := by decide +kernel
theorem dX12_feed_96 : decode cX12_feed 96 = .ok (.imul, 1) := by decide +kernel
theorem dX12_feed_97 : decode cX12_feed 97 = .ok (.isub, 1) := by decide +kernel
theorem dX12_feed_98 : decode cX12_feed 98 = .ok (.ishr, 1) := by decide +kernel
theorem dX12_feed_99 : decode cX12_feed 99 = .ok (.i2b, 1) := by decide +kernel
theorem dX12_feed_100 : decode cX12_feed 100 = .ok (.bastore, 1) := by decide +kernel
theorem dX12_feed_101 : decode cX12_feed 101 = .ok (.aload_n 0, 1) := by decide +kernel
theorem dX12_feed_102 : decode cX12_feed 102 = .ok (.dup, 1) := by decide +kernel
theorem dX12_feed_103 : decode cX12_feed 103 = .ok (.getfield 149, 3) := by decide +kernel
theorem dX12_feed_106 : decode cX12_feed 106 = .ok (.iconst 1, 1) := by decide +kernel
theorem dX12_feed_107 : decode cX12_feed 107 = .ok (.iadd, 1) := by decide +kernel
theorem dX12_feed_108 : decode cX12_feed 108 = .ok (.putfield 149, 3) := by decide +kernel
theorem dX12_feed_111 : decode cX12_feed 111 = .ok (.iinc 6 1, 3) := by decide +kernel
theorem dX12_feed_114 : decode cX12_feed 114 = .ok (.goto (-91), 3) := by decide +kernel
theorem dX12_feed_117 : decode cX12_feed 117 = .ok (.aload_n 0, 1) := by decide +kernel
theorem dX12_feed_118 : decode cX12_feed 118 = .ok (.getfield 149, 3) := by decide +kernel
theorem dX12_feed_121 : decode cX12_feed 121 = .ok (.ireturn, 1) := by decide +kernel
theorem dX12_end_0 : decode cX12_end 0 = .ok (.aload_n 0, 1) := by decide +kernel
theorem dX12_end_1 : decode cX12_end 1 = .ok (.iconst 0, 1) := by decide +kernel
theorem dX12_end_2 : decode cX12_end 2 = .ok (.putfield 1, 3) := by decide +kernel
theorem dX12_end_5 : decode cX12_end 5 = .ok (.iload_n 1, 1) := by decide +kernel
theorem dX12_end_6 : decode cX12_end 6 = .ok (.ifCond .lt 11, 3) := by decide +kernel
theorem dX12_end_9 : decode cX12_end 9 = .ok (.iload_n 1, 1) := by decide +kernel
theorem dX12_end_10 : decode cX12_end 10 = .ok (.aload_n 0, 1) := by decide +kernel
theorem dX12_end_11 : decode cX12_end 11 = .ok (.getfield 149, 3) := by decide +kernel
theorem dX12_end_14 : decode cX12_end 14 = .ok (.if_icmp .le 5, 3) := by decide +kernel
theorem dX12_end_17 : decode cX12_end 17 = .ok (.iconst (-1), 1) := by decide +kernel
theorem dX12_end_18 : decode cX12_end 18 = .ok (.ireturn, 1) := by decide +kernel
theorem dX12_end_19 : decode cX12_end 19 = .ok (.aload_n 0, 1) := by decide +kernel
theorem dX12_end_20 : decode cX12_end 20 = .ok (.iload_n 1, 1) := by decide +kernel
theorem dX12_end_21 : decode cX12_end 21 = .ok (.putfield 149, 3) := by decide +kernel
theorem dX12_end_24 : decode cX12_end 24 = .ok (.iload_n 1, 1) := by decide +kernel
theorem dX12_end_25 : decode cX12_end 25 = .ok (.ireturn, 1) := by decide +kernel
theorem dX12_see_0 : decode cX12_see 0 = .ok (.iload_n 1, 1) := by decide +kernel
theorem dX12_see_1 : decode cX12_see 1 = .ok (.aload_n 0, 1) := by decide +kernel
theorem dX12_see_2 : decode cX12_see 2 = .ok (.getfield 149, 3) := by decide +kernel
theorem dX12_see_5 : decode cX12_see 5 = .ok (.if_icmp .ge 12, 3) := by decide +kernel
theorem dX12_see_8 : decode cX12_see 8 = .ok (.aload_n 0, 1) := by decide +kernel
theorem dX12_see_9 : decode cX12_see 9 = .ok (.getfield 19, 3) := by decide +kernel
theorem dX12_see_12 : decode cX12_see 12 = .ok (.iload_n 1, 1) := by decide +kernel
theorem dX12_see_13 : decode cX12_see 13 = .ok (.baload, 1) := by decide +kernel
theorem dX12_see_14 : decode cX12_see 14 = .ok (.goto 4, 3) := by decide +kernel
theorem dX12_see_17 : decode cX12_see 17 = .ok (.iconst 0, 1) := by decide +kernel
theorem dX12_see_18 : decode cX12_see 18 = .ok (.ireturn, 1) := by decide +kernel
theorem dX12_isSmall_0 : decode cX12_isSmall 0 = .ok (.iload_n 0, 1) := by decide +kernel
theorem dX12_isSmall_1 : decode cX12_isSmall 1 = .ok (.bipush 97, 2) := by decide +kernel
theorem dX12_isSmall_3 : decode cX12_isSmall 3 = .ok (.if_icmp .lt 13, 3) := by decide +kernel
theorem dX12_isSmall_6 : decode cX12_isSmall 6 = .ok (.iload_n 0, 1) := by decide +kernel
theorem dX12_isSmall_7 : decode cX12_isSmall 7 = .ok (.bipush 122, 2) := by decide +kernel
theorem dX12_isSmall_9 : decode cX12_isSmall 9 = .ok (.if_icmp .gt 7, 3) := by decide +kernel
theorem dX12_isSmall_12 : decode cX12_isSmall 12 = .ok (.iconst 1, 1) := by decide +kernel
theorem dX12_isSmall_13 : decode cX12_isSmall 13 = .ok (.goto 4, 3) := by decide +kernel
theorem dX12_isSmall_16 : decode cX12_isSmall 16 = .ok (.iconst 0, 1) := by decide +kernel
theorem dX12_isSmall_17 : decode cX12_isSmall 17 = .ok (.ireturn, 1) := by decide +kernel
theorem dX12_isDigit_0 : decode cX12_isDigit 0 = .ok (.iload_n 0, 1) := by decide +kernel
theorem dX12_isDigit_1 : decode cX12_isDigit 1 = .ok (.bipush 48, 2) := by decide +kernel
theorem dX12_isDigit_3 : decode cX12_isDigit 3 = .ok (.if_icmp .lt 13, 3) := by decide +kernel
theorem dX12_isDigit_6 : decode cX12_isDigit 6 = .ok (.iload_n 0, 1) := by decide +kernel
theorem dX12_isDigit_7 : decode cX12_isDigit 7 = .ok (.bipush 57, 2) := by decide +kernel
theorem dX12_isDigit_9 : decode cX12_isDigit 9 = .ok (.if_icmp .gt 7, 3) := by decide +kernel
theorem dX12_isDigit_12 : decode cX12_isDigit 12 = .ok (.iconst 1, 1) := by decide +kernel
theorem dX12_isDigit_13 : decode cX12_isDigit 13 = .ok (.goto 4, 3) := by decide +kernel
theorem dX12_isDigit_16 : decode cX12_isDigit 16 = .ok (.iconst 0, 1) := by decide +kernel
theorem dX12_isDigit_17 : decode cX12_isDigit 17 = .ok (.ireturn, 1) := by decide +kernel
theorem dX12_next_0 : decode cX12_next 0 = .ok (.aload_n 0, 1) := by decide +kernel
theorem dX12_next_1 : decode cX12_next 1 = .ok (.getfield 152, 3) := by decide +kernel
theorem dX12_next_4 : decode cX12_next 4 = .ok (.aload_n 0, 1) := by decide +kernel
theorem dX12_next_5 : decode cX12_next 5 = .ok (.getfield 149, 3) := by decide +kernel
theorem dX12_next_8 : decode cX12_next 8 = .ok (.if_icmp .ge 44, 3) := by decide +kernel
theorem dX12_next_11 : decode cX12_next 11 = .ok (.aload_n 0, 1) := by decide +kernel
theorem dX12_next_12 : decode cX12_next 12 = .ok (.getfield 19, 3) := by decide +kernel
theorem dX12_next_15 : decode cX12_next 15 = .ok (.aload_n 0, 1) := by decide +kernel
theorem dX12_next_16 : decode cX12_next 16 = .ok (.getfield 152, 3) := by decide +kernel
theorem dX12_next_19 : decode cX12_next 19 = .ok (.baload, 1) := by decide +kernel
theorem dX12_next_20 : decode cX12_next 20 = .ok (.bipush 32, 2) := by decide +kernel
theorem dX12_next_22 : decode cX12_next 22 = .ok (.if_icmp .eq 17, 3) := by decide +kernel
theorem dX12_next_25 : decode cX12_next 25 = .ok (.aload_n 0, 1) := by decide +kernel
theorem dX12_next_26 : decode cX12_next 26 = .ok (.getfield 19, 3) := by decide +kernel
theorem dX12_next_29 : decode cX12_next 29 = .ok (.aload_n 0, 1) := by decide +kernel
theorem dX12_next_30 : decode cX12_next 30 = .ok (.getfield 152, 3) := by decide +kernel
theorem dX12_next_33 : decode cX12_next 33 = .ok (.baload, 1) := by decide +kernel
theorem dX12_next_34 : decode cX12_next 34 = .ok (.bipush 10, 2) := by decide +kernel
theorem dX12_next_36 : decode cX12_next 36 = .ok (.if_icmp .ne 16, 3) := by decide +kernel
theorem dX12_next_39 : decode cX12_next 39 = .ok (.aload_n 0, 1) := by decide +kernel
theorem dX12_next_40 : decode cX12_next 40 = .ok (.dup, 1) := by decide +kernel
theorem dX12_next_41 : decode cX12_next 41 = .ok (.getfield 152, 3) := by decide +kernel
theorem dX12_next_44 : decode cX12_next 44 = .ok (.iconst 1, 1) := by decide +kernel
theorem dX12_next_45 : decode cX12_next 45 = .ok (.iadd, 1) := by decide +kernel
theorem dX12_next_46 : decode cX12_next 46 = .ok (.putfield 152, 3) := by decide +kernel
theorem dX12_next_49 : decode cX12_next 49 = .ok (.goto (-49), 3) := by decide +kernel
theorem dX12_next_52 : decode cX12_next 52 = .ok (.aload_n 0, 1) := by decide +kernel
theorem dX12_next_53 : decode cX12_next 53 = .ok (.aload_n 0, 1) := by decide +kernel
theorem dX12_next_54 : decode cX12_next 54 = .ok (.getfield 152, 3) := by decide +kernel
theorem dX12_next_57 : decode cX12_next 57 = .ok (.putfield 155, 3) := by decide +kernel
theorem dX12_next_60 : decode cX12_next 60 = .ok (.aload_n 0, 1) := by decide +kernel
theorem dX12_next_61 : decode cX12_next 61 = .ok (.getfield 152, 3) := by decide +kernel
theorem dX12_next_64 : decode cX12_next 64 = .ok (.aload_n 0, 1) := by decide +kernel
theorem dX12_next_65 : decode cX12_next 65 = .ok (.getfield 149, 3) := by decide +kernel
theorem dX12_next_68 : decode cX12_next 68 = .ok (.if_icmp .lt 9, 3) := by decide +kernel
theorem dX12_next_71 : decode cX12_next 71 = .ok (.aload_n 0, 1) := by decide +kernel
theorem dX12_next_72 : decode cX12_next 72 = .ok (.iconst 0, 1) := by decide +kernel
theorem dX12_next_73 : decode cX12_next 73 = .ok (.putfield 158, 3) := by decide +kernel
theorem dX12_next_76 : decode cX12_next 76 = .ok (.return_, 1) := by decide +kernel
theorem dX12_next_77 : decode cX12_next 77 = .ok (.aload_n 0, 1) := by decide +kernel
theorem dX12_next_78 : decode cX12_next 78 = .ok (.getfield 19, 3) := by decide +kernel
theorem dX12_next_81 : decode cX12_next 81 = .ok (.aload_n 0, 1) := by decide +kernel
theorem dX12_next_82 : decode cX12_next 82 = .ok (.getfield 152, 3) := by decide +kernel
theorem dX12_next_85 : decode cX12_next 85 = .ok (.baload, 1) := by decide +kernel
theorem dX12_next_86 : decode cX12_next 86 = .ok (.istore_n 1, 1) := by decide +kernel
theorem dX12_next_87 : decode cX12_next 87 = .ok (.aload_n 0, 1) := by decide +kernel
theorem dX12_next_88 : decode cX12_next 88 = .ok (.dup, 1) := by decide +kernel
theorem dX12_next_89 : decode cX12_next 89 = .ok (.getfield 152, 3) := by decide +kernel
theorem dX12_next_92 : decode cX12_next 92 = .ok (.iconst 1, 1) := by decide +kernel
theorem dX12_next_93 : decode cX12_next 93 = .ok (.iadd, 1) := by decide +kernel
theorem dX12_next_94 : decode cX12_next 94 = .ok (.putfield 152, 3) := by decide +kernel
theorem dX12_next_97 : decode cX12_next 97 = .ok (.iload_n 1, 1) := by decide +kernel
theorem dX12_next_98 : decode cX12_next 98 = .ok (.invokestatic 161, 3) := by decide +kernel
theorem dX12_next_101 : decode cX12_next 101 = .ok (.ifCond .eq 56, 3) := by decide +kernel
theorem dX12_next_104 : decode cX12_next 104 = .ok (.aload_n 0, 1) := by decide +kernel
theorem dX12_next_105 : decode cX12_next 105 = .ok (.aload_n 0, 1) := by decide +kernel
theorem dX12_next_106 : decode cX12_next 106 = .ok (.getfield 152, 3) := by decide +kernel
theorem dX12_next_109 : decode cX12_next 109 = .ok (.invokevirtual 165, 3) := by decide +kernel
theorem dX12_next_112 : decode cX12_next 112 = .ok (.invokestatic 161, 3) := by decide +kernel
theorem dX12_next_115 : decode cX12_next 115 = .ok (.ifCond .eq 16, 3) := by decide +kernel
theorem dX12_next_118 : decode cX12_next 118 = .ok (.aload_n 0, 1) := by decide +kernel
theorem dX12_next_119 : decode cX12_next 119 = .ok (.dup, 1) := by decide +kernel
theorem dX12_next_120 : decode cX12_next 120 = .ok (.getfield 152, 3) := by decide +kernel
theorem dX12_next_123 : decode cX12_next 123 = .ok (.iconst 1, 1) := by decide +kernel
theorem dX12_next_124 : decode cX12_next 124 = .ok (.iadd, 1) := by decide +kernel
theorem dX12_next_125 : decode cX12_next 125 = .ok (.putfield 152, 3) := by decide +kernel
theorem dX12_next_128 : decode cX12_next 128 = .ok (.goto (-24), 3) := by decide +kernel
theorem dX12_next_131 : decode cX12_next 131 = .ok (.aload_n 0, 1) := by decide +kernel
theorem dX12_next_132 : decode cX12_next 132 = .ok (.aload_n 0, 1) := by decide +kernel
theorem dX12_next_133 : decode cX12_next 133 = .ok (.getfield 152, 3) := by decide +kernel
theorem dX12_next_136 : decode cX12_next 136 = .ok (.aload_n 0, 1) := by decide +kernel
theorem dX12_next_137 : decode cX12_next 137 = .ok (.getfield 155, 3) := by decide +kernel
theorem dX12_next_140 : decode cX12_next 140 = .ok (.isub, 1) := by decide +kernel
theorem dX12_next_141 : decode cX12_next 141 = .ok (.bipush 8, 2) := by decide +kernel
theorem dX12_next_143 : decode cX12_next 143 = .ok (.if_icmp .le 7, 3) := by decide +kernel
theorem dX12_next_146 : decode cX12_next 146 = .ok (.iconst 1, 1) := by decide +kernel
theorem dX12_next_147 : decode cX12_next 147 = .ok (.goto 4, 3) := by decide +kernel
theorem dX12_next_150 : decode cX12_next 150 = .ok (.iconst 3, 1) := by decide +kernel
theorem dX12_next_151 : decode cX12_next 151 = .ok (.putfield 158, 3) := by decide +kernel
theorem dX12_next_154 : decode cX12_next 154 = .ok (.goto 140, 3) := by decide +kernel
theorem dX12_next_157 : decode cX12_next 157 = .ok (.iload_n 1, 1) := by decide +kernel
theorem dX12_next_158 : decode cX12_next 158 = .ok (.invokestatic 169, 3) := by decide +kernel
theorem dX12_next_161 : decode cX12_next 161 = .ok (.ifCond .eq 101, 3) := by decide +kernel
theorem dX12_next_164 : decode cX12_next 164 = .ok (.aload_n 0, 1) := by decide +kernel
theorem dX12_next_165 : decode cX12_next 165 = .ok (.iload_n 1, 1) := by decide +kernel
theorem dX12_next_166 : decode cX12_next 166 = .ok (.bipush 48, 2) := by decide +kernel
theorem dX12_next_168 : decode cX12_next 168 = .ok (.isub, 1) := by decide +kernel
theorem dX12_next_169 : decode cX12_next 169 = .ok (.putfield 172, 3) := by decide +kernel
theorem dX12_next_172 : decode cX12_next 172 = .ok (.aload_n 0, 1) := by decide +kernel
theorem dX12_next_173 : decode cX12_next 173 = .ok (.aload_n 0, 1) := by decide +kernel
theorem dX12_next_174 : decode cX12_next 174 = .ok (.getfield 152, 3) := by decide +kernel
theorem dX12_next_177 : decode cX12_next 177 = .ok (.invokevirtual 165, 3) := by decide +kernel
theorem dX12_next_180 : decode cX12_next 180 = .ok (.invokestatic 169, 3) := by decide +kernel
theorem dX12_next_183 : decode cX12_next 183 = .ok (.ifCond .eq 53, 3) := by decide +kernel
theorem dX12_next_186 : decode cX12_next 186 = .ok (.aload_n 0, 1) := by decide +kernel
theorem dX12_next_187 : decode cX12_next 187 = .ok (.getfield 152, 3) := by decide +kernel
theorem dX12_next_190 : decode cX12_next 190 = .ok (.aload_n 0, 1) := by decide +kernel
theorem dX12_next_191 : decode cX12_next 191 = .ok (.getfield 155, 3) := by decide +kernel
theorem dX12_next_194 : decode cX12_next 194 = .ok (.isub, 1) := by decide +kernel
theorem dX12_next_195 : decode cX12_next 195 = .ok (.bipush 6, 2) := by decide +kernel
theorem dX12_next_197 : decode cX12_next 197 = .ok (.if_icmp .ge 26, 3) := by decide +kernel
theorem dX12_next_200 : decode cX12_next 200 = .ok (.aload_n 0, 1) := by decide +kernel
theorem dX12_next_201 : decode cX12_next 201 = .ok (.bipush 10, 2) := by decide +kernel
theorem dX12_next_203 : decode cX12_next 203 = .ok (.aload_n 0, 1) := by decide +kernel
theorem dX12_next_204 : decode cX12_next 204 = .ok (.getfield 172, 3) := by decide +kernel
theorem dX12_next_207 : decode cX12_next 207 = .ok (.imul, 1) := by decide +kernel
theorem dX12_next_208 : decode cX12_next 208 = .ok (.aload_n 0, 1) := by decide +kernel
theorem dX12_next_209 : decode cX12_next 209 = .ok (.aload_n 0, 1) := by decide +kernel
theorem dX12_next_210 : decode cX12_next 210 = .ok (.getfield 152, 3) := by decide +kernel
theorem dX12_next_213 : decode cX12_next 213 = .ok (.invokevirtual 165, 3) := by decide +kernel
theorem dX12_next_216 : decode cX12_next 216 = .ok (.iadd, 1) := by decide +kernel
theorem dX12_next_217 : decode cX12_next 217 = .ok (.bipush 48, 2) := by decide +kernel
theorem dX12_next_219 : decode cX12_next 219 = .ok (.isub, 1) := by decide +kernel
theorem dX12_next_220 : decode cX12_next 220 = .ok (.putfield 172, 3) := by decide +kernel
theorem dX12_next_223 : decode cX12_next 223 = .ok (.aload_n 0, 1) := by decide +kernel
theorem dX12_next_224 : decode cX12_next 224 = .ok (.dup, 1) := by decide +kernel
theorem dX12_next_225 : decode cX12_next 225 = .ok (.getfield 152, 3) := by decide +kernel
theorem dX12_next_228 : decode cX12_next 228 = .ok (.iconst 1, 1) := by decide +kernel
theorem dX12_next_229 : decode cX12_next 229 = .ok (.iadd, 1) := by decide +kernel
theorem dX12_next_230 : decode cX12_next 230 = .ok (.putfield 152, 3) := by decide +kernel
theorem dX12_next_233 : decode cX12_next 233 = .ok (.goto (-61), 3) := by decide +kernel
theorem dX12_next_236 : decode cX12_next 236 = .ok (.aload_n 0, 1) := by decide +kernel
theorem dX12_next_237 : decode cX12_next 237 = .ok (.aload_n 0, 1) := by decide +kernel
theorem dX12_next_238 : decode cX12_next 238 = .ok (.getfield 152, 3) := by decide +kernel
theorem dX12_next_241 : decode cX12_next 241 = .ok (.aload_n 0, 1) := by decide +kernel
theorem dX12_next_242 : decode cX12_next 242 = .ok (.getfield 155, 3) := by decide +kernel
theorem dX12_next_245 : decode cX12_next 245 = .ok (.isub, 1) := by decide +kernel
theorem dX12_next_246 : decode cX12_next 246 = .ok (.bipush 6, 2) := by decide +kernel
theorem dX12_next_248 : decode cX12_next 248 = .ok (.if_icmp .le 7, 3) := by decide +kernel
theorem dX12_next_251 : decode cX12_next 251 = .ok (.iconst 1, 1) := by decide +kernel
theorem dX12_next_252 : decode cX12_next 252 = .ok (.goto 4, 3) := by decide +kernel
theorem dX12_next_255 : decode cX12_next 255 = .ok (.iconst 2, 1) := by decide +kernel
theorem dX12_next_256 : decode cX12_next 256 = .ok (.putfield 158, 3) := by decide +kernel
theorem dX12_next_259 : decode cX12_next 259 = .ok (.goto 35, 3) := by decide +kernel
theorem dX12_next_262 : decode cX12_next 262 = .ok (.aload_n 0, 1) := by decide +kernel
theorem dX12_next_263 : decode cX12_next 263 = .ok (.iload_n 1, 1) := by decide +kernel
theorem dX12_next_264 : decode cX12_next 264 = .ok (.putfield 172, 3) := by decide +kernel
theorem dX12_next_267 : decode cX12_next 267 = .ok (.aload_n 0, 1) := by decide +kernel
theorem dX12_next_268 : decode cX12_next 268 = .ok (.iload_n 1, 1) := by decide +kernel
theorem dX12_next_269 : decode cX12_next 269 = .ok (.bipush 40, 2) := by decide +kernel
theorem dX12_next_271 : decode cX12_next 271 = .ok (.if_icmp .eq 15, 3) := by decide +kernel
theorem dX12_next_274 : decode cX12_next 274 = .ok (.iload_n 1, 1) := by decide +kernel
theorem dX12_next_275 : decode cX12_next 275 = .ok (.bipush 41, 2) := by decide +kernel
theorem dX12_next_277 : decode cX12_next 277 = .ok (.if_icmp .eq 9, 3) := by decide +kernel
theorem dX12_next_280 : decode cX12_next 280 = .ok (.iload_n 1, 1) := by decide +kernel
theorem dX12_next_281 : decode cX12_next 281 = .ok (.bipush 44, 2) := by decide +kernel
theorem dX12_next_283 : decode cX12_next 283 = .ok (.if_icmp .ne 7, 3) := by decide +kernel
theorem dX12_next_286 : decode cX12_next 286 = .ok (.iconst 4, 1) := by decide +kernel
theorem dX12_next_287 : decode cX12_next 287 = .ok (.goto 4, 3) := by decide +kernel
theorem dX12_next_290 : decode cX12_next 290 = .ok (.iconst 1, 1) := by decide +kernel
theorem dX12_next_291 : decode cX12_next 291 = .ok (.putfield 158, 3) := by decide +kernel
theorem dX12_next_294 : decode cX12_next 294 = .ok (.return_, 1) := by decide +kernel
theorem dX12_isWord_0 : decode cX12_isWord 0 = .ok (.aload_n 0, 1) := by decide +kernel
theorem dX12_isWord_1 : decode cX12_isWord 1 = .ok (.getfield 158, 3) := by decide +kernel
theorem dX12_isWord_4 : decode cX12_isWord 4 = .ok (.iconst 3, 1) := by decide +kernel
theorem dX12_isWord_5 : decode cX12_isWord 5 = .ok (.if_icmp .ne 19, 3) := by decide +kernel
theorem dX12_isWord_8 : decode cX12_isWord 8 = .ok (.aload_n 0, 1) := by decide +kernel
theorem dX12_isWord_9 : decode cX12_isWord 9 = .ok (.getfield 152, 3) := by decide +kernel
theorem dX12_isWord_12 : decode cX12_isWord 12 = .ok (.aload_n 0, 1) := by decide +kernel
theorem dX12_isWord_13 : decode cX12_isWord 13 = .ok (.getfield 155, 3) := by decide +kernel
theorem dX12_isWord_16 : decode cX12_isWord 16 = .ok (.isub, 1) := by decide +kernel
theorem dX12_isWord_17 : decode cX12_isWord 17 = .ok (.aload_n 1, 1) := by decide +kernel
theorem dX12_isWord_18 : decode cX12_isWord 18 = .ok (.invokevirtual 175, 3) := by decide +kernel
theorem dX12_isWord_21 : decode cX12_isWord 21 = .ok (.if_icmp .eq 5, 3) := by decide +kernel
theorem dX12_isWord_24 : decode cX12_isWord 24 = .ok (.iconst 0, 1) := by decide +kernel
theorem dX12_isWord_25 : decode cX12_isWord 25 = .ok (.ireturn, 1) := by decide +kernel
theorem dX12_isWord_26 : decode cX12_isWord 26 = .ok (.iconst 0, 1) := by decide +kernel
theorem dX12_isWord_27 : decode cX12_isWord 27 = .ok (.istore_n 2, 1) := by decide +kernel
theorem dX12_isWord_28 : decode cX12_isWord 28 = .ok (.iload_n 2, 1) := by decide +kernel
theorem dX12_isWord_29 : decode cX12_isWord 29 = .ok (.aload_n 1, 1) := by decide +kernel
theorem dX12_isWord_30 : decode cX12_isWord 30 = .ok (.invokevirtual 175, 3) := by decide +kernel
theorem dX12_isWord_33 : decode cX12_isWord 33 = .ok (.if_icmp .ge 30, 3) := by decide +kernel
theorem dX12_isWord_36 : decode cX12_isWord 36 = .ok (.aload_n 0, 1) := by decide +kernel
theorem dX12_isWord_37 : decode cX12_isWord 37 = .ok (.getfield 19, 3) := by decide +kernel
theorem dX12_isWord_40 : decode cX12_isWord 40 = .ok (.aload_n 0, 1) := by decide +kernel
theorem dX12_isWord_41 : decode cX12_isWord 41 = .ok (.getfield 155, 3) := by decide +kernel
theorem dX12_isWord_44 : decode cX12_isWord 44 = .ok (.iload_n 2, 1) := by decide +kernel
theorem dX12_isWord_45 : decode cX12_isWord 45 = .ok (.iadd, 1) := by decide +kernel
theorem dX12_isWord_46 : decode cX12_isWord 46 = .ok (.baload, 1) := by decide +kernel
theorem dX12_isWord_47 : decode cX12_isWord 47 = .ok (.aload_n 1, 1) := by decide +kernel
theorem dX12_isWord_48 : decode cX12_isWord 48 = .ok (.iload_n 2, 1) := by decide +kernel
theorem dX12_isWord_49 : decode cX12_isWord 49 = .ok (.invokevirtual 181, 3) := by decide +kernel
theorem dX12_isWord_52 : decode cX12_isWord 52 = .ok (.if_icmp .eq 5, 3) := by decide +kernel
theorem dX12_isWord_55 : decode cX12_isWord 55 = .ok (.iconst 0, 1) := by decide +kernel
theorem dX12_isWord_56 : decode cX12_isWord 56 = .ok (.ireturn, 1) := by decide +kernel
theorem dX12_isWord_57 : decode cX12_isWord 57 = .ok (.iinc 2 1, 3) := by decide +kernel
theorem dX12_isWord_60 : decode cX12_isWord 60 = .ok (.goto (-32), 3) := by decide +kernel
theorem dX12_isWord_63 : decode cX12_isWord 63 = .ok (.iconst 1, 1) := by decide +kernel
theorem dX12_isWord_64 : decode cX12_isWord 64 = .ok (.ireturn, 1) := by decide +kernel
theorem dX12_how_0 : decode cX12_how 0 = .ok (.aload_n 0, 1) := by decide +kernel
theorem dX12_how_1 : decode cX12_how 1 = .ok (.ldc 185, 2) := by decide +kernel
theorem dX12_how_3 : decode cX12_how 3 = .ok (.invokevirtual 187, 3) := by decide +kernel
theorem dX12_how_6 : decode cX12_how 6 = .ok (.ifCond .eq 7, 3) := by decide +kernel
theorem dX12_how_9 : decode cX12_how 9 = .ok (.iconst 0, 1) := by decide +kernel
theorem dX12_how_10 : decode cX12_how 10 = .ok (.goto 43, 3) := by decide +kernel
theorem dX12_how_13 : decode cX12_how 13 = .ok (.aload_n 0, 1) := by decide +kernel
theorem dX12_how_14 : decode cX12_how 14 = .ok (.ldc 191, 2) := by decide +kernel
theorem dX12_how_16 : decode cX12_how 16 = .ok (.invokevirtual 187, 3) := by decide +kernel
theorem dX12_how_19 : decode cX12_how 19 = .ok (.ifCond .eq 7, 3) := by decide +kernel
theorem dX12_how_22 : decode cX12_how 22 = .ok (.iconst 1, 1) := by decide +kernel
theorem dX12_how_23 : decode cX12_how 23 = .ok (.goto 30, 3) := by decide +kernel
theorem dX12_how_26 : decode cX12_how 26 = .ok (.aload_n 0, 1) := by decide +kernel
theorem dX12_how_27 : decode cX12_how 27 = .ok (.ldc 193, 2) := by decide +kernel
theorem dX12_how_29 : decode cX12_how 29 = .ok (.invokevirtual 187, 3) := by decide +kernel
theorem dX12_how_32 : decode cX12_how 32 = .ok (.ifCond .eq 7, 3) := by decide +kernel
theorem dX12_how_35 : decode cX12_how 35 = .ok (.iconst 2, 1) := by decide +kernel
theorem dX12_how_36 : decode cX12_how 36 = .ok (.goto 17, 3) := by decide +kernel
theorem dX12_how_39 : decode cX12_how 39 = .ok (.aload_n 0, 1) := by decide +kernel
theorem dX12_how_40 : decode cX12_how 40 = .ok (.ldc 195, 2) := by decide +kernel
theorem dX12_how_42 : decode cX12_how 42 = .ok (.invokevirtual 187, 3) := by decide +kernel
theorem dX12_how_45 : decode cX12_how 45 = .ok (.ifCond .eq 7, 3) := by decide +kernel
theorem dX12_how_48 : decode cX12_how 48 = .ok (.iconst 3, 1) := by decide +kernel
theorem dX12_how_49 : decode cX12_how 49 = .ok (.goto 4, 3) := by decide +kernel
theorem dX12_how_52 : decode cX12_how 52 = .ok (.iconst (-1), 1) := by decide +kernel
theorem dX12_how_53 : decode cX12_how 53 = .ok (.ireturn, 1) := by decide +kernel
theorem dX12_isName_0 : decode cX12_isName 0 = .ok (.aload_n 0, 1) := by decide +kernel
theorem dX12_isName_1 : decode cX12_isName 1 = .ok (.getfield 158, 3) := by decide +kernel
theorem dX12_isName_4 : decode cX12_isName 4 = .ok (.iconst 3, 1) := by decide +kernel
theorem dX12_isName_5 : decode cX12_isName 5 = .ok (.if_icmp .ne 24, 3) := by decide +kernel
theorem dX12_isName_8 : decode cX12_isName 8 = .ok (.aload_n 0, 1) := by decide +kernel
theorem dX12_isName_9 : decode cX12_isName 9 = .ok (.invokevirtual 197, 3) := by decide +kernel
theorem dX12_isName_12 : decode cX12_isName 12 = .ok (.iconst (-1), 1) := by decide +kernel
theorem dX12_isName_13 : decode cX12_isName 13 = .ok (.if_icmp .ne 16, 3) := by decide +kernel
theorem dX12_isName_16 : decode cX12_isName 16 = .ok (.aload_n 0, 1) := by decide +kernel
theorem dX12_isName_17 : decode cX12_isName 17 = .ok (.ldc 200, 2) := by decide +kernel
theorem dX12_isName_19 : decode cX12_isName 19 = .ok (.invokevirtual 187, 3) := by decide +kernel
theorem dX12_isName_22 : decode cX12_isName 22 = .ok (.ifCond .ne 7, 3) := by decide +kernel
theorem dX12_isName_25 : decode cX12_isName 25 = .ok (.iconst 1, 1) := by decide +kernel
theorem dX12_isName_26 : decode cX12_isName 26 = .ok (.goto 4, 3) := by decide +kernel
theorem dX12_isName_29 : decode cX12_isName 29 = .ok (.iconst 0, 1) := by decide +kernel
theorem dX12_isName_30 : decode cX12_isName 30 = .ok (.ireturn, 1) := by decide +kernel
theorem dX12_is_0 : decode cX12_is 0 = .ok (.aload_n 0, 1) := by decide +kernel
theorem dX12_is_1 : decode cX12_is 1 = .ok (.getfield 158, 3) := by decide +kernel
theorem dX12_is_4 : decode cX12_is 4 = .ok (.iconst 4, 1) := by decide +kernel
theorem dX12_is_5 : decode cX12_is 5 = .ok (.if_icmp .ne 15, 3) := by decide +kernel
theorem dX12_is_8 : decode cX12_is 8 = .ok (.aload_n 0, 1) := by decide +kernel
theorem dX12_is_9 : decode cX12_is 9 = .ok (.getfield 172, 3) := by decide +kernel
theorem dX12_is_12 : decode cX12_is 12 = .ok (.iload_n 1, 1) := by decide +kernel
theorem dX12_is_13 : decode cX12_is 13 = .ok (.if_icmp .ne 7, 3) := by decide +kernel
theorem dX12_is_16 : decode cX12_is 16 = .ok (.iconst 1, 1) := by decide +kernel
theorem dX12_is_17 : decode cX12_is 17 = .ok (.goto 4, 3) := by decide +kernel
theorem dX12_is_20 : decode cX12_is 20 = .ok (.iconst 0, 1) := by decide +kernel
theorem dX12_is_21 : decode cX12_is 21 = .ok (.ireturn, 1) := by decide +kernel
theorem dX12_fails_0 : decode cX12_fails 0 = .ok (.aload_n 0, 1) := by decide +kernel
theorem dX12_fails_1 : decode cX12_fails 1 = .ok (.getfield 202, 3) := by decide +kernel
theorem dX12_fails_4 : decode cX12_fails 4 = .ok (.ifCond .eq 4, 3) := by decide +kernel
theorem dX12_fails_7 : decode cX12_fails 7 = .ok (.return_, 1) := by decide +kernel
theorem dX12_fails_8 : decode cX12_fails 8 = .ok (.aload_n 0, 1) := by decide +kernel
theorem dX12_fails_9 : decode cX12_fails 9 = .ok (.iload_n 1, 1) := by decide +kernel
theorem dX12_fails_10 : decode cX12_fails 10 = .ok (.putfield 202, 3) := by decide +kernel
theorem dX12_fails_13 : decode cX12_fails 13 = .ok (.aload_n 0, 1) := by decide +kernel
theorem dX12_fails_14 : decode cX12_fails 14 = .ok (.aload_n 0, 1) := by decide +kernel
theorem dX12_fails_15 : decode cX12_fails 15 = .ok (.getfield 155, 3) := by decide +kernel
theorem dX12_fails_18 : decode cX12_fails 18 = .ok (.putfield 205, 3) := by decide +kernel
theorem dX12_fails_21 : decode cX12_fails 21 = .ok (.return_, 1) := by decide +kernel
theorem dX12_isWell_0 : decode cX12_isWell 0 = .ok (.aload_n 0, 1) := by decide +kernel
theorem dX12_isWell_1 : decode cX12_isWell 1 = .ok (.getfield 202, 3) := by decide +kernel
theorem dX12_isWell_4 : decode cX12_isWell 4 = .ok (.ifCond .ne 7, 3) := by decide +kernel
theorem dX12_isWell_7 : decode cX12_isWell 7 = .ok (.iconst 1, 1) := by decide +kernel
theorem dX12_isWell_8 : decode cX12_isWell 8 = .ok (.goto 4, 3) := by decide +kernel
theorem dX12_isWell_11 : decode cX12_isWell 11 = .ok (.iconst 0, 1) := by decide +kernel
theorem dX12_isWell_12 : decode cX12_isWell 12 = .ok (.ireturn, 1) := by decide +kernel
theorem dX12_isKnown_0 : decode cX12_isKnown 0 = .ok (.iconst 0, 1) := by decide +kernel
theorem dX12_isKnown_1 : decode cX12_isKnown 1 = .ok (.istore_n 1, 1) := by decide +kernel
theorem dX12_isKnown_2 : decode cX12_isKnown 2 = .ok (.bipush 41, 2) := by decide +kernel
theorem dX12_isKnown_4 : decode cX12_isKnown 4 = .ok (.istore_n 2, 1) := by decide +kernel
theorem dX12_isKnown_5 : decode cX12_isKnown 5 = .ok (.iload_n 2, 1) := by decide +kernel
theorem dX12_isKnown_6 : decode cX12_isKnown 6 = .ok (.bipush 41, 2) := by decide +kernel
theorem dX12_isKnown_8 : decode cX12_isKnown 8 = .ok (.aload_n 0, 1) := by decide +kernel
theorem dX12_isKnown_9 : decode cX12_isKnown 9 = .ok (.getfield 208, 3) := by decide +kernel
theorem dX12_isKnown_12 : decode cX12_isKnown 12 = .ok (.iadd, 1) := by decide +kernel
theorem dX12_isKnown_13 : decode cX12_isKnown 13 = .ok (.if_icmp .ge 104, 3) := by decide +kernel
theorem dX12_isKnown_16 : decode cX12_isKnown 16 = .ok (.aload_n 0, 1) := by decide +kernel
theorem dX12_isKnown_17 : decode cX12_isKnown 17 = .ok (.getfield 49, 3) := by decide +kernel
theorem dX12_isKnown_20 : decode cX12_isKnown 20 = .ok (.iload_n 2, 1) := by decide +kernel
theorem dX12_isKnown_21 : decode cX12_isKnown 21 = .ok (.iaload, 1) := by decide +kernel
theorem dX12_isKnown_22 : decode cX12_isKnown 22 = .ok (.aload_n 0, 1) := by decide +kernel
theorem dX12_isKnown_23 : decode cX12_isKnown 23 = .ok (.getfield 152, 3) := by decide +kernel
theorem dX12_isKnown_26 : decode cX12_isKnown 26 = .ok (.aload_n 0, 1) := by decide +kernel
theorem dX12_isKnown_27 : decode cX12_isKnown 27 = .ok (.getfield 155, 3) := by decide +kernel
theorem dX12_isKnown_30 : decode cX12_isKnown 30 = .ok (.isub, 1) := by decide +kernel
theorem dX12_isKnown_31 : decode cX12_isKnown 31 = .ok (.if_icmp .ne 7, 3) := by decide +kernel
theorem dX12_isKnown_34 : decode cX12_isKnown 34 = .ok (.iconst 1, 1) := by decide +kernel
theorem dX12_isKnown_35 : decode cX12_isKnown 35 = .ok (.goto 4, 3) := by decide +kernel
theorem dX12_isKnown_38 : decode cX12_isKnown 38 = .ok (.iconst 0, 1) := by decide +kernel
theorem dX12_isKnown_39 : decode cX12_isKnown 39 = .ok (.istore_n 3, 1) := by decide +kernel
theorem dX12_isKnown_40 : decode cX12_isKnown 40 = .ok (.iconst 0, 1) := by decide +kernel
theorem dX12_isKnown_41 : decode cX12_isKnown 41 = .ok (.istore 4, 2) := by decide +kernel
theorem dX12_isKnown_43 : decode cX12_isKnown 43 = .ok (.iload 4, 2) := by decide +kernel
theorem dX12_isKnown_45 : decode cX12_isKnown 45 = .ok (.aload_n 0, 1) := by decide +kernel
theorem dX12_isKnown_46 : decode cX12_isKnown 46 = .ok (.getfield 49, 3) := by decide +kernel
theorem dX12_isKnown_49 : decode cX12_isKnown 49 = .ok (.iload_n 2, 1) := by decide +kernel
theorem dX12_isKnown_50 : decode cX12_isKnown 50 = .ok (.iaload, 1) := by decide +kernel
theorem dX12_isKnown_51 : decode cX12_isKnown 51 = .ok (.if_icmp .ge 46, 3) := by decide +kernel
theorem dX12_isKnown_54 : decode cX12_isKnown 54 = .ok (.iload_n 3, 1) := by decide +kernel
theorem dX12_isKnown_55 : decode cX12_isKnown 55 = .ok (.ifCond .eq 42, 3) := by decide +kernel
theorem dX12_isKnown_58 : decode cX12_isKnown 58 = .ok (.aload_n 0, 1) := by decide +kernel
theorem dX12_isKnown_59 : decode cX12_isKnown 59 = .ok (.getfield 52, 3) := by decide +kernel
theorem dX12_isKnown_62 : decode cX12_isKnown 62 = .ok (.bipush 8, 2) := by decide +kernel
theorem dX12_isKnown_64 : decode cX12_isKnown 64 = .ok (.iload_n 2, 1) := by decide +kernel
theorem dX12_isKnown_65 : decode cX12_isKnown 65 = .ok (.imul, 1) := by decide +kernel
theorem dX12_isKnown_66 : decode cX12_isKnown 66 = .ok (.iload 4, 2) := by decide +kernel
theorem dX12_isKnown_68 : decode cX12_isKnown 68 = .ok (.iadd, 1) := by decide +kernel
theorem dX12_isKnown_69 : decode cX12_isKnown 69 = .ok (.baload, 1) := by decide +kernel
theorem dX12_isKnown_70 : decode cX12_isKnown 70 = .ok (.aload_n 0, 1) := by decide +kernel
theorem dX12_isKnown_71 : decode cX12_isKnown 71 = .ok (.getfield 19, 3) := by decide +kernel
theorem dX12_isKnown_74 : decode cX12_isKnown 74 = .ok (.aload_n 0, 1) := by decide +kernel
theorem dX12_isKnown_75 : decode cX12_isKnown 75 = .ok (.getfield 155, 3) := by decide +kernel
theorem dX12_isKnown_78 : decode cX12_isKnown 78 = .ok (.iload 4, 2) := by decide +kernel
theorem dX12_isKnown_80 : decode cX12_isKnown 80 = .ok (.iadd, 1) := by decide +kernel
theorem dX12_isKnown_81 : decode cX12_isKnown 81 = .ok (.baload, 1) := by decide +kernel
theorem dX12_isKnown_82 : decode cX12_isKnown 82 = .ok (.if_icmp .ne 7, 3) := by decide +kernel
theorem dX12_isKnown_85 : decode cX12_isKnown 85 = .ok (.iconst 1, 1) := by decide +kernel
theorem dX12_isKnown_86 : decode cX12_isKnown 86 = .ok (.goto 4, 3) := by decide +kernel
theorem dX12_isKnown_89 : decode cX12_isKnown 89 = .ok (.iconst 0, 1) := by decide +kernel
theorem dX12_isKnown_90 : decode cX12_isKnown 90 = .ok (.istore_n 3, 1) := by decide +kernel
theorem dX12_isKnown_91 : decode cX12_isKnown 91 = .ok (.iinc 4 1, 3) := by decide +kernel
theorem dX12_isKnown_94 : decode cX12_isKnown 94 = .ok (.goto (-51), 3) := by decide +kernel
theorem dX12_isKnown_97 : decode cX12_isKnown 97 = .ok (.iload_n 1, 1) := by decide +kernel
theorem dX12_isKnown_98 : decode cX12_isKnown 98 = .ok (.ifCond .ne 7, 3) := by decide +kernel
theorem dX12_isKnown_101 : decode cX12_isKnown 101 = .ok (.iload_n 3, 1) := by decide +kernel
theorem dX12_isKnown_102 : decode cX12_isKnown 102 = .ok (.ifCond .eq 7, 3) := by decide +kernel
theorem dX12_isKnown_105 : decode cX12_isKnown 105 = .ok (.iconst 1, 1) := by decide +kernel
theorem dX12_isKnown_106 : decode cX12_isKnown 106 = .ok (.goto 4, 3) := by decide +kernel
theorem dX12_isKnown_109 : decode cX12_isKnown 109 = .ok (.iconst 0, 1) := by decide +kernel
theorem dX12_isKnown_110 : decode cX12_isKnown 110 = .ok (.istore_n 1, 1) := by decide +kernel
theorem dX12_isKnown_111 : decode cX12_isKnown 111 = .ok (.iinc 2 1, 3) := by decide +kernel
theorem dX12_isKnown_114 : decode cX12_isKnown 114 = .ok (.goto (-109), 3) := by decide +kernel
theorem dX12_isKnown_117 : decode cX12_isKnown 117 = .ok (.iload_n 1, 1) := by decide +kernel
theorem dX12_isKnown_118 : decode cX12_isKnown 118 = .ok (.ireturn, 1) := by decide +kernel
theorem dX12_newBox_0 : decode cX12_newBox 0 = .ok (.aload_n 0, 1) := by decide +kernel
theorem dX12_newBox_1 : decode cX12_newBox 1 = .ok (.invokevirtual 211, 3) := by decide +kernel
theorem dX12_newBox_4 : decode cX12_newBox 4 = .ok (.ifCond .ne 10, 3) := by decide +kernel
theorem dX12_newBox_7 : decode cX12_newBox 7 = .ok (.aload_n 0, 1) := by decide +kernel
theorem dX12_newBox_8 : decode cX12_newBox 8 = .ok (.iconst 1, 1) := by decide +kernel
theorem dX12_newBox_9 : decode cX12_newBox 9 = .ok (.invokevirtual 215, 3) := by decide +kernel
theorem dX12_newBox_12 : decode cX12_newBox 12 = .ok (.iconst (-1), 1) := by decide +kernel
theorem dX12_newBox_13 : decode cX12_newBox 13 = .ok (.ireturn, 1) := by decide +kernel
theorem dX12_newBox_14 : decode cX12_newBox 14 = .ok (.aload_n 0, 1) := by decide +kernel
theorem dX12_newBox_15 : decode cX12_newBox 15 = .ok (.getfield 208, 3) := by decide +kernel
theorem dX12_newBox_18 : decode cX12_newBox 18 = .ok (.bipush 40, 2) := by decide +kernel
theorem dX12_newBox_20 : decode cX12_newBox 20 = .ok (.if_icmp .eq 19, 3) := by decide +kernel
theorem dX12_newBox_23 : decode cX12_newBox 23 = .ok (.iload_n 1, 1) := by decide +kernel
theorem dX12_newBox_24 : decode cX12_newBox 24 = .ok (.iconst (-1), 1) := by decide +kernel
theorem dX12_newBox_25 : decode cX12_newBox 25 = .ok (.if_icmp .eq 21, 3) := by decide +kernel
theorem dX12_newBox_28 : decode cX12_newBox 28 = .ok (.aload_n 0, 1) := by decide +kernel
theorem dX12_newBox_29 : decode cX12_newBox 29 = .ok (.getfield 34, 3) := by decide +kernel
theorem dX12_newBox_32 : decode cX12_newBox 32 = .ok (.iload_n 1, 1) := by decide +kernel
theorem dX12_newBox_33 : decode cX12_newBox 33 = .ok (.iaload, 1) := by decide +kernel
theorem dX12_newBox_34 : decode cX12_newBox 34 = .ok (.bipush 8, 2) := by decide +kernel
theorem dX12_newBox_36 : decode cX12_newBox 36 = .ok (.if_icmp .ne 10, 3) := by decide +kernel
theorem dX12_newBox_39 : decode cX12_newBox 39 = .ok (.aload_n 0, 1) := by decide +kernel
theorem dX12_newBox_40 : decode cX12_newBox 40 = .ok (.iconst 2, 1) := by decide +kernel
theorem dX12_newBox_41 : decode cX12_newBox 41 = .ok (.invokevirtual 215, 3) := by decide +kernel
theorem dX12_newBox_44 : decode cX12_newBox 44 = .ok (.iconst (-1), 1) := by decide +kernel
theorem dX12_newBox_45 : decode cX12_newBox 45 = .ok (.ireturn, 1) := by decide +kernel
theorem dX12_newBox_46 : decode cX12_newBox 46 = .ok (.aload_n 0, 1) := by decide +kernel
theorem dX12_newBox_47 : decode cX12_newBox 47 = .ok (.invokevirtual 219, 3) := by decide +kernel
theorem dX12_newBox_50 : decode cX12_newBox 50 = .ok (.ifCond .eq 10, 3) := by decide +kernel
theorem dX12_newBox_53 : decode cX12_newBox 53 = .ok (.aload_n 0, 1) := by decide +kernel
theorem dX12_newBox_54 : decode cX12_newBox 54 = .ok (.iconst 3, 1) := by decide +kernel
theorem dX12_newBox_55 : decode cX12_newBox 55 = .ok (.invokevirtual 215, 3) := by decide +kernel
theorem dX12_newBox_58 : decode cX12_newBox 58 = .ok (.iconst (-1), 1) := by decide +kernel
theorem dX12_newBox_59 : decode cX12_newBox 59 = .ok (.ireturn, 1) := by decide +kernel
theorem dX12_newBox_60 : decode cX12_newBox 60 = .ok (.bipush 41, 2) := by decide +kernel
theorem dX12_newBox_62 : decode cX12_newBox 62 = .ok (.aload_n 0, 1) := by decide +kernel
theorem dX12_newBox_63 : decode cX12_newBox 63 = .ok (.getfield 208, 3) := by decide +kernel
theorem dX12_newBox_66 : decode cX12_newBox 66 = .ok (.iadd, 1) := by decide +kernel
theorem dX12_newBox_67 : decode cX12_newBox 67 = .ok (.istore_n 2, 1) := by decide +kernel
theorem dX12_newBox_68 : decode cX12_newBox 68 = .ok (.aload_n 0, 1) := by decide +kernel
theorem dX12_newBox_69 : decode cX12_newBox 69 = .ok (.dup, 1) := by decide +kernel
theorem dX12_newBox_70 : decode cX12_newBox 70 = .ok (.getfield 208, 3) := by decide +kernel
theorem dX12_newBox_73 : decode cX12_newBox 73 = .ok (.iconst 1, 1) := by decide +kernel
theorem dX12_newBox_74 : decode cX12_newBox 74 = .ok (.iadd, 1) := by decide +kernel
theorem dX12_newBox_75 : decode cX12_newBox 75 = .ok (.putfield 208, 3) := by decide +kernel
theorem dX12_newBox_78 : decode cX12_newBox 78 = .ok (.aload_n 0, 1) := by decide +kernel
theorem dX12_newBox_79 : decode cX12_newBox 79 = .ok (.getfield 26, 3) := by decide +kernel
theorem dX12_newBox_82 : decode cX12_newBox 82 = .ok (.iload_n 2, 1) := by decide +kernel
theorem dX12_newBox_83 : decode cX12_newBox 83 = .ok (.iload_n 1, 1) := by decide +kernel
theorem dX12_newBox_84 : decode cX12_newBox 84 = .ok (.iastore, 1) := by decide +kernel
theorem dX12_newBox_85 : decode cX12_newBox 85 = .ok (.aload_n 0, 1) := by decide +kernel
theorem dX12_newBox_86 : decode cX12_newBox 86 = .ok (.getfield 30, 3) := by decide +kernel
theorem dX12_newBox_89 : decode cX12_newBox 89 = .ok (.iload_n 2, 1) := by decide +kernel
theorem dX12_newBox_90 : decode cX12_newBox 90 = .ok (.iconst 0, 1) := by decide +kernel
theorem dX12_newBox_91 : decode cX12_newBox 91 = .ok (.bastore, 1) := by decide +kernel
theorem dX12_newBox_92 : decode cX12_newBox 92 = .ok (.aload_n 0, 1) := by decide +kernel
theorem dX12_newBox_93 : decode cX12_newBox 93 = .ok (.getfield 34, 3) := by decide +kernel
theorem dX12_newBox_96 : decode cX12_newBox 96 = .ok (.iload_n 2, 1) := by decide +kernel
theorem dX12_newBox_97 : decode cX12_newBox 97 = .ok (.iconst 0, 1) := by decide +kernel
theorem dX12_newBox_98 : decode cX12_newBox 98 = .ok (.iastore, 1) := by decide +kernel
theorem dX12_newBox_99 : decode cX12_newBox 99 = .ok (.aload_n 0, 1) := by decide +kernel
theorem dX12_newBox_100 : decode cX12_newBox 100 = .ok (.getfield 37, 3) := by decide +kernel
theorem dX12_newBox_103 : decode cX12_newBox 103 = .ok (.iload_n 2, 1) := by decide +kernel
theorem dX12_newBox_104 : decode cX12_newBox 104 = .ok (.iload_n 1, 1) := by decide +kernel
theorem dX12_newBox_105 : decode cX12_newBox 105 = .ok (.iconst (-1), 1) := by decide +kernel
theorem dX12_newBox_106 : decode cX12_newBox 106 = .ok (.if_icmp .ne 7, 3) := by decide +kernel
theorem dX12_newBox_109 : decode cX12_newBox 109 = .ok (.iconst 0, 1) := by decide +kernel
theorem dX12_newBox_110 : decode cX12_newBox 110 = .ok (.goto 11, 3) := by decide +kernel
theorem dX12_newBox_113 : decode cX12_newBox 113 = .ok (.aload_n 0, 1) := by decide +kernel
theorem dX12_newBox_114 : decode cX12_newBox 114 = .ok (.getfield 37, 3) := by decide +kernel
theorem dX12_newBox_117 : decode cX12_newBox 117 = .ok (.iload_n 1, 1) := by decide +kernel
theorem dX12_newBox_118 : decode cX12_newBox 118 = .ok (.iaload, 1) := by decide +kernel
theorem dX12_newBox_119 : decode cX12_newBox 119 = .ok (.iconst 1, 1) := by decide +kernel
theorem dX12_newBox_120 : decode cX12_newBox 120 = .ok (.iadd, 1) := by decide +kernel
theorem dX12_newBox_121 : decode cX12_newBox 121 = .ok (.iastore, 1) := by decide +kernel
theorem dX12_newBox_122 : decode cX12_newBox 122 = .ok (.aload_n 0, 1) := by decide +kernel
theorem dX12_newBox_123 : decode cX12_newBox 123 = .ok (.getfield 40, 3) := by decide +kernel
theorem dX12_newBox_126 : decode cX12_newBox 126 = .ok (.iload_n 2, 1) := by decide +kernel
theorem dX12_newBox_127 : decode cX12_newBox 127 = .ok (.iconst 0, 1) := by decide +kernel
theorem dX12_newBox_128 : decode cX12_newBox 128 = .ok (.iastore, 1) := by decide +kernel
theorem dX12_newBox_129 : decode cX12_newBox 129 = .ok (.aload_n 0, 1) := by decide +kernel
theorem dX12_newBox_130 : decode cX12_newBox 130 = .ok (.getfield 43, 3) := by decide +kernel
theorem dX12_newBox_133 : decode cX12_newBox 133 = .ok (.iload_n 2, 1) := by decide +kernel
theorem dX12_newBox_134 : decode cX12_newBox 134 = .ok (.iconst 0, 1) := by decide +kernel
theorem dX12_newBox_135 : decode cX12_newBox 135 = .ok (.bastore, 1) := by decide +kernel
theorem dX12_newBox_136 : decode cX12_newBox 136 = .ok (.aload_n 0, 1) := by decide +kernel
theorem dX12_newBox_137 : decode cX12_newBox 137 = .ok (.getfield 46, 3) := by decide +kernel
theorem dX12_newBox_140 : decode cX12_newBox 140 = .ok (.iload_n 2, 1) := by decide +kernel
theorem dX12_newBox_141 : decode cX12_newBox 141 = .ok (.iconst 0, 1) := by decide +kernel
theorem dX12_newBox_142 : decode cX12_newBox 142 = .ok (.iastore, 1) := by decide +kernel
theorem dX12_newBox_143 : decode cX12_newBox 143 = .ok (.aload_n 0, 1) := by decide +kernel
theorem dX12_newBox_144 : decode cX12_newBox 144 = .ok (.getfield 49, 3) := by decide +kernel
theorem dX12_newBox_147 : decode cX12_newBox 147 = .ok (.iload_n 2, 1) := by decide +kernel
theorem dX12_newBox_148 : decode cX12_newBox 148 = .ok (.aload_n 0, 1) := by decide +kernel
theorem dX12_newBox_149 : decode cX12_newBox 149 = .ok (.getfield 152, 3) := by decide +kernel
theorem dX12_newBox_152 : decode cX12_newBox 152 = .ok (.aload_n 0, 1) := by decide +kernel
theorem dX12_newBox_153 : decode cX12_newBox 153 = .ok (.getfield 155, 3) := by decide +kernel
theorem dX12_newBox_156 : decode cX12_newBox 156 = .ok (.isub, 1) := by decide +kernel
theorem dX12_newBox_157 : decode cX12_newBox 157 = .ok (.iastore, 1) := by decide +kernel
theorem dX12_newBox_158 : decode cX12_newBox 158 = .ok (.iconst 0, 1) := by decide +kernel
theorem dX12_newBox_159 : decode cX12_newBox 159 = .ok (.istore_n 3, 1) := by decide +kernel
theorem dX12_newBox_160 : decode cX12_newBox 160 = .ok (.iload_n 3, 1) := by decide +kernel
theorem dX12_newBox_161 : decode cX12_newBox 161 = .ok (.aload_n 0, 1) := by decide +kernel
theorem dX12_newBox_162 : decode cX12_newBox 162 = .ok (.getfield 49, 3) := by decide +kernel
theorem dX12_newBox_165 : decode cX12_newBox 165 = .ok (.iload_n 2, 1) := by decide +kernel
theorem dX12_newBox_166 : decode cX12_newBox 166 = .ok (.iaload, 1) := by decide +kernel
theorem dX12_newBox_167 : decode cX12_newBox 167 = .ok (.if_icmp .ge 31, 3) := by decide +kernel
theorem dX12_newBox_170 : decode cX12_newBox 170 = .ok (.aload_n 0, 1) := by decide +kernel
theorem dX12_newBox_171 : decode cX12_newBox 171 = .ok (.getfield 52, 3) := by decide +kernel
theorem dX12_newBox_174 : decode cX12_newBox 174 = .ok (.bipush 8, 2) := by decide +kernel
theorem dX12_newBox_176 : decode cX12_newBox 176 = .ok (.iload_n 2, 1) := by decide +kernel
theorem dX12_newBox_177 : decode cX12_newBox 177 = .ok (.imul, 1) := by decide +kernel
theorem dX12_newBox_178 : decode cX12_newBox 178 = .ok (.iload_n 3, 1) := by decide +kernel
theorem dX12_newBox_179 : decode cX12_newBox 179 = .ok (.iadd, 1) := by decide +kernel
theorem dX12_newBox_180 : decode cX12_newBox 180 = .ok (.aload_n 0, 1) := by decide +kernel
theorem dX12_newBox_181 : decode cX12_newBox 181 = .ok (.getfield 19, 3) := by decide +kernel
theorem dX12_newBox_184 : decode cX12_newBox 184 = .ok (.aload_n 0, 1) := by decide +kernel
theorem dX12_newBox_185 : decode cX12_newBox 185 = .ok (.getfield 155, 3) := by decide +kernel
theorem dX12_newBox_188 : decode cX12_newBox 188 = .ok (.iload_n 3, 1) := by decide +kernel
theorem dX12_newBox_189 : decode cX12_newBox 189 = .ok (.iadd, 1) := by decide +kernel
theorem dX12_newBox_190 : decode cX12_newBox 190 = .ok (.baload, 1) := by decide +kernel
theorem dX12_newBox_191 : decode cX12_newBox 191 = .ok (.bastore, 1) := by decide +kernel
theorem dX12_newBox_192 : decode cX12_newBox 192 = .ok (.iinc 3 1, 3) := by decide +kernel
theorem dX12_newBox_195 : decode cX12_newBox 195 = .ok (.goto (-35), 3) := by decide +kernel
theorem dX12_newBox_198 : decode cX12_newBox 198 = .ok (.iload_n 1, 1) := by decide +kernel
theorem dX12_newBox_199 : decode cX12_newBox 199 = .ok (.iconst (-1), 1) := by decide +kernel
theorem dX12_newBox_200 : decode cX12_newBox 200 = .ok (.if_icmp .eq 13, 3) := by decide +kernel
theorem dX12_newBox_203 : decode cX12_newBox 203 = .ok (.aload_n 0, 1) := by decide +kernel
theorem dX12_newBox_204 : decode cX12_newBox 204 = .ok (.getfield 34, 3) := by decide +kernel
theorem dX12_newBox_207 : decode cX12_newBox 207 = .ok (.iload_n 1, 1) := by decide +kernel
theorem dX12_newBox_208 : decode cX12_newBox 208 = .ok (.dup2, 1) := by decide +kernel
theorem dX12_newBox_209 : decode cX12_newBox 209 = .ok (.iaload, 1) := by decide +kernel
theorem dX12_newBox_210 : decode cX12_newBox 210 = .ok (.iconst 1, 1) := by decide +kernel
theorem dX12_newBox_211 : decode cX12_newBox 211 = .ok (.iadd, 1) := by decide +kernel
theorem dX12_newBox_212 : decode cX12_newBox 212 = .ok (.iastore, 1) := by decide +kernel
theorem dX12_newBox_213 : decode cX12_newBox 213 = .ok (.aload_n 0, 1) := by decide +kernel
theorem dX12_newBox_214 : decode cX12_newBox 214 = .ok (.invokevirtual 222, 3) := by decide +kernel
theorem dX12_newBox_217 : decode cX12_newBox 217 = .ok (.iload_n 2, 1) := by decide +kernel
theorem dX12_newBox_218 : decode cX12_newBox 218 = .ok (.ireturn, 1) := by decide +kernel
theorem dX12_want_0 : decode cX12_want 0 = .ok (.aload_n 0, 1) := by decide +kernel
theorem dX12_want_1 : decode cX12_want 1 = .ok (.invokevirtual 225, 3) := by decide +kernel
theorem dX12_want_4 : decode cX12_want 4 = .ok (.ifCond .ne 4, 3) := by decide +kernel
theorem dX12_want_7 : decode cX12_want 7 = .ok (.return_, 1) := by decide +kernel
theorem dX12_want_8 : decode cX12_want 8 = .ok (.aload_n 0, 1) := by decide +kernel
theorem dX12_want_9 : decode cX12_want 9 = .ok (.iload_n 1, 1) := by decide +kernel
theorem dX12_want_10 : decode cX12_want 10 = .ok (.invokevirtual 228, 3) := by decide +kernel
theorem dX12_want_13 : decode cX12_want 13 = .ok (.ifCond .eq 10, 3) := by decide +kernel
theorem dX12_want_16 : decode cX12_want 16 = .ok (.aload_n 0, 1) := by decide +kernel
theorem dX12_want_17 : decode cX12_want 17 = .ok (.invokevirtual 222, 3) := by decide +kernel
theorem dX12_want_20 : decode cX12_want 20 = .ok (.goto 8, 3) := by decide +kernel
theorem dX12_want_23 : decode cX12_want 23 = .ok (.aload_n 0, 1) := by decide +kernel
theorem dX12_want_24 : decode cX12_want 24 = .ok (.iconst 1, 1) := by decide +kernel
theorem dX12_want_25 : decode cX12_want 25 = .ok (.invokevirtual 215, 3) := by decide +kernel
theorem dX12_want_28 : decode cX12_want 28 = .ok (.return_, 1) := by decide +kernel
theorem dX12_group_0 : decode cX12_group 0 = .ok (.aload_n 0, 1) := by decide +kernel
theorem dX12_group_1 : decode cX12_group 1 = .ok (.invokevirtual 197, 3) := by decide +kernel
theorem dX12_group_4 : decode cX12_group 4 = .ok (.iconst (-1), 1) := by decide +kernel
theorem dX12_group_5 : decode cX12_group 5 = .ok (.if_icmp .ne 9, 3) := by decide +kernel
theorem dX12_group_8 : decode cX12_group 8 = .ok (.aload_n 0, 1) := by decide +kernel
theorem dX12_group_9 : decode cX12_group 9 = .ok (.iconst 1, 1) := by decide +kernel
theorem dX12_group_10 : decode cX12_group 10 = .ok (.invokevirtual 215, 3) := by decide +kernel
theorem dX12_group_13 : decode cX12_group 13 = .ok (.return_, 1) := by decide +kernel
theorem dX12_group_14 : decode cX12_group 14 = .ok (.aload_n 0, 1) := by decide +kernel
theorem dX12_group_15 : decode cX12_group 15 = .ok (.getfield 37, 3) := by decide +kernel
theorem dX12_group_18 : decode cX12_group 18 = .ok (.iload_n 1, 1) := by decide +kernel
theorem dX12_group_19 : decode cX12_group 19 = .ok (.iaload, 1) := by decide +kernel
theorem dX12_group_20 : decode cX12_group 20 = .ok (.bipush 6, 2) := by decide +kernel
theorem dX12_group_22 : decode cX12_group 22 = .ok (.if_icmp .ne 9, 3) := by decide +kernel
theorem dX12_group_25 : decode cX12_group 25 = .ok (.aload_n 0, 1) := by decide +kernel
theorem dX12_group_26 : decode cX12_group 26 = .ok (.iconst 2, 1) := by decide +kernel
theorem dX12_group_27 : decode cX12_group 27 = .ok (.invokevirtual 215, 3) := by decide +kernel
theorem dX12_group_30 : decode cX12_group 30 = .ok (.return_, 1) := by decide +kernel
theorem dX12_group_31 : decode cX12_group 31 = .ok (.aload_n 0, 1) := by decide +kernel
theorem dX12_group_32 : decode cX12_group 32 = .ok (.getfield 30, 3) := by decide +kernel
theorem dX12_group_35 : decode cX12_group 35 = .ok (.iload_n 1, 1) := by decide +kernel
theorem dX12_group_36 : decode cX12_group 36 = .ok (.iconst 1, 1) := by decide +kernel
theorem dX12_group_37 : decode cX12_group 37 = .ok (.bastore, 1) := by decide +kernel
theorem dX12_group_38 : decode cX12_group 38 = .ok (.aload_n 0, 1) := by decide +kernel
theorem dX12_group_39 : decode cX12_group 39 = .ok (.getfield 40, 3) := by decide +kernel
theorem dX12_group_42 : decode cX12_group 42 = .ok (.iload_n 1, 1) := by decide +kernel
theorem dX12_group_43 : decode cX12_group 43 = .ok (.aload_n 0, 1) := by decide +kernel
theorem dX12_group_44 : decode cX12_group 44 = .ok (.invokevirtual 197, 3) := by decide +kernel
theorem dX12_group_47 : decode cX12_group 47 = .ok (.iastore, 1) := by decide +kernel
theorem dX12_group_48 : decode cX12_group 48 = .ok (.aload_n 0, 1) := by decide +kernel
theorem dX12_group_49 : decode cX12_group 49 = .ok (.invokevirtual 222, 3) := by decide +kernel
theorem dX12_group_52 : decode cX12_group 52 = .ok (.aload_n 0, 1) := by decide +kernel
theorem dX12_group_53 : decode cX12_group 53 = .ok (.ldc 200, 2) := by decide +kernel
theorem dX12_group_55 : decode cX12_group 55 = .ok (.invokevirtual 187, 3) := by decide +kernel
theorem dX12_group_58 : decode cX12_group 58 = .ok (.ifCond .eq 14, 3) := by decide +kernel
theorem dX12_group_61 : decode cX12_group 61 = .ok (.aload_n 0, 1) := by decide +kernel
theorem dX12_group_62 : decode cX12_group 62 = .ok (.getfield 43, 3) := by decide +kernel
theorem dX12_group_65 : decode cX12_group 65 = .ok (.iload_n 1, 1) := by decide +kernel
theorem dX12_group_66 : decode cX12_group 66 = .ok (.iconst 1, 1) := by decide +kernel
theorem dX12_group_67 : decode cX12_group 67 = .ok (.bastore, 1) := by decide +kernel
theorem dX12_group_68 : decode cX12_group 68 = .ok (.aload_n 0, 1) := by decide +kernel
theorem dX12_group_69 : decode cX12_group 69 = .ok (.invokevirtual 222, 3) := by decide +kernel
theorem dX12_group_72 : decode cX12_group 72 = .ok (.aload_n 0, 1) := by decide +kernel
theorem dX12_group_73 : decode cX12_group 73 = .ok (.bipush 40, 2) := by decide +kernel
theorem dX12_group_75 : decode cX12_group 75 = .ok (.invokevirtual 231, 3) := by decide +kernel
theorem dX12_group_78 : decode cX12_group 78 = .ok (.aload_n 0, 1) := by decide +kernel
theorem dX12_group_79 : decode cX12_group 79 = .ok (.invokevirtual 225, 3) := by decide +kernel
theorem dX12_group_82 : decode cX12_group 82 = .ok (.istore_n 2, 1) := by decide +kernel
theorem dX12_group_83 : decode cX12_group 83 = .ok (.iload_n 2, 1) := by decide +kernel
theorem dX12_group_84 : decode cX12_group 84 = .ok (.ifCond .eq 41, 3) := by decide +kernel
theorem dX12_group_87 : decode cX12_group 87 = .ok (.aload_n 0, 1) := by decide +kernel
theorem dX12_group_88 : decode cX12_group 88 = .ok (.iload_n 1, 1) := by decide +kernel
theorem dX12_group_89 : decode cX12_group 89 = .ok (.invokevirtual 234, 3) := by decide +kernel
theorem dX12_group_92 : decode cX12_group 92 = .ok (.aload_n 0, 1) := by decide +kernel
theorem dX12_group_93 : decode cX12_group 93 = .ok (.invokevirtual 225, 3) := by decide +kernel
theorem dX12_group_96 : decode cX12_group 96 = .ok (.ifCond .eq 16, 3) := by decide +kernel
theorem dX12_group_99 : decode cX12_group 99 = .ok (.aload_n 0, 1) := by decide +kernel
theorem dX12_group_100 : decode cX12_group 100 = .ok (.bipush 44, 2) := by decide +kernel
theorem dX12_group_102 : decode cX12_group 102 = .ok (.invokevirtual 228, 3) := by decide +kernel
theorem dX12_group_105 : decode cX12_group 105 = .ok (.ifCond .eq 7, 3) := by decide +kernel
theorem dX12_group_108 : decode cX12_group 108 = .ok (.iconst 1, 1) := by decide +kernel
theorem dX12_group_109 : decode cX12_group 109 = .ok (.goto 4, 3) := by decide +kernel
theorem dX12_group_112 : decode cX12_group 112 = .ok (.iconst 0, 1) := by decide +kernel
theorem dX12_group_113 : decode cX12_group 113 = .ok (.istore_n 2, 1) := by decide +kernel
theorem dX12_group_114 : decode cX12_group 114 = .ok (.iload_n 2, 1) := by decide +kernel
theorem dX12_group_115 : decode cX12_group 115 = .ok (.ifCond .eq (-32), 3) := by decide +kernel
theorem dX12_group_118 : decode cX12_group 118 = .ok (.aload_n 0, 1) := by decide +kernel
theorem dX12_group_119 : decode cX12_group 119 = .ok (.invokevirtual 222, 3) := by decide +kernel
theorem dX12_group_122 : decode cX12_group 122 = .ok (.goto (-39), 3) := by decide +kernel
theorem dX12_group_125 : decode cX12_group 125 = .ok (.aload_n 0, 1) := by decide +kernel
theorem dX12_group_126 : decode cX12_group 126 = .ok (.bipush 41, 2) := by decide +kernel
theorem dX12_group_128 : decode cX12_group 128 = .ok (.invokevirtual 231, 3) := by decide +kernel
theorem dX12_group_131 : decode cX12_group 131 = .ok (.return_, 1) := by decide +kernel
theorem dX12_child_0 : decode cX12_child 0 = .ok (.aload_n 0, 1) := by decide +kernel
theorem dX12_child_1 : decode cX12_child 1 = .ok (.iload_n 1, 1) := by decide +kernel
theorem dX12_child_2 : decode cX12_child 2 = .ok (.invokevirtual 237, 3) := by decide +kernel
theorem dX12_child_5 : decode cX12_child 5 = .ok (.istore_n 2, 1) := by decide +kernel
theorem dX12_child_6 : decode cX12_child 6 = .ok (.aload_n 0, 1) := by decide +kernel
theorem dX12_child_7 : decode cX12_child 7 = .ok (.invokevirtual 225, 3) := by decide +kernel
theorem dX12_child_10 : decode cX12_child 10 = .ok (.ifCond .ne 4, 3) := by decide +kernel
theorem dX12_child_13 : decode cX12_child 13 = .ok (.return_, 1) := by decide +kernel
theorem dX12_child_14 : decode cX12_child 14 = .ok (.aload_n 0, 1) := by decide +kernel
theorem dX12_child_15 : decode cX12_child 15 = .ok (.getfield 158, 3) := by decide +kernel
theorem dX12_child_18 : decode cX12_child 18 = .ok (.iconst 2, 1) := by decide +kernel
theorem dX12_child_19 : decode cX12_child 19 = .ok (.if_icmp .ne 20, 3) := by decide +kernel
theorem dX12_child_22 : decode cX12_child 22 = .ok (.aload_n 0, 1) := by decide +kernel
theorem dX12_child_23 : decode cX12_child 23 = .ok (.getfield 46, 3) := by decide +kernel
theorem dX12_child_26 : decode cX12_child 26 = .ok (.iload_n 2, 1) := by decide +kernel
theorem dX12_child_27 : decode cX12_child 27 = .ok (.aload_n 0, 1) := by decide +kernel
theorem dX12_child_28 : decode cX12_child 28 = .ok (.getfield 172, 3) := by decide +kernel
theorem dX12_child_31 : decode cX12_child 31 = .ok (.iastore, 1) := by decide +kernel
theorem dX12_child_32 : decode cX12_child 32 = .ok (.aload_n 0, 1) := by decide +kernel
theorem dX12_child_33 : decode cX12_child 33 = .ok (.invokevirtual 222, 3) := by decide +kernel
theorem dX12_child_36 : decode cX12_child 36 = .ok (.goto 8, 3) := by decide +kernel
theorem dX12_child_39 : decode cX12_child 39 = .ok (.aload_n 0, 1) := by decide +kernel
theorem dX12_child_40 : decode cX12_child 40 = .ok (.iload_n 2, 1) := by decide +kernel
theorem dX12_child_41 : decode cX12_child 41 = .ok (.invokevirtual 240, 3) := by decide +kernel
theorem dX12_child_44 : decode cX12_child 44 = .ok (.return_, 1) := by decide +kernel
theorem dX12_tree_0 : decode cX12_tree 0 = .ok (.aload_n 0, 1) := by decide +kernel
theorem dX12_tree_1 : decode cX12_tree 1 = .ok (.iconst 0, 1) := by decide +kernel
theorem dX12_tree_2 : decode cX12_tree 2 = .ok (.putfield 1, 3) := by decide +kernel
theorem dX12_tree_5 : decode cX12_tree 5 = .ok (.aload_n 0, 1) := by decide +kernel
theorem dX12_tree_6 : decode cX12_tree 6 = .ok (.iconst 0, 1) := by decide +kernel
theorem dX12_tree_7 : decode cX12_tree 7 = .ok (.putfield 202, 3) := by decide +kernel
theorem dX12_tree_10 : decode cX12_tree 10 = .ok (.aload_n 0, 1) := by decide +kernel
theorem dX12_tree_11 : decode cX12_tree 11 = .ok (.iconst 0, 1) := by decide +kernel
theorem dX12_tree_12 : decode cX12_tree 12 = .ok (.putfield 208, 3) := by decide +kernel
theorem dX12_tree_15 : decode cX12_tree 15 = .ok (.aload_n 0, 1) := by decide +kernel
theorem dX12_tree_16 : decode cX12_tree 16 = .ok (.iconst 0, 1) := by decide +kernel
theorem dX12_tree_17 : decode cX12_tree 17 = .ok (.putfield 152, 3) := by decide +kernel
theorem dX12_tree_20 : decode cX12_tree 20 = .ok (.aload_n 0, 1) := by decide +kernel
theorem dX12_tree_21 : decode cX12_tree 21 = .ok (.invokevirtual 222, 3) := by decide +kernel
theorem dX12_tree_24 : decode cX12_tree 24 = .ok (.aload_n 0, 1) := by decide +kernel
theorem dX12_tree_25 : decode cX12_tree 25 = .ok (.iconst (-1), 1) := by decide +kernel
theorem dX12_tree_26 : decode cX12_tree 26 = .ok (.invokevirtual 237, 3) := by decide +kernel
theorem dX12_tree_29 : decode cX12_tree 29 = .ok (.istore_n 1, 1) := by decide +kernel
theorem dX12_tree_30 : decode cX12_tree 30 = .ok (.aload_n 0, 1) := by decide +kernel
theorem dX12_tree_31 : decode cX12_tree 31 = .ok (.invokevirtual 225, 3) := by decide +kernel
theorem dX12_tree_34 : decode cX12_tree 34 = .ok (.ifCond .eq 8, 3) := by decide +kernel
theorem dX12_tree_37 : decode cX12_tree 37 = .ok (.aload_n 0, 1) := by decide +kernel
theorem dX12_tree_38 : decode cX12_tree 38 = .ok (.iload_n 1, 1) := by decide +kernel
theorem dX12_tree_39 : decode cX12_tree 39 = .ok (.invokevirtual 240, 3) := by decide +kernel
theorem dX12_tree_42 : decode cX12_tree 42 = .ok (.aload_n 0, 1) := by decide +kernel
theorem dX12_tree_43 : decode cX12_tree 43 = .ok (.invokevirtual 225, 3) := by decide +kernel
theorem dX12_tree_46 : decode cX12_tree 46 = .ok (.ifCond .eq 15, 3) := by decide +kernel
theorem dX12_tree_49 : decode cX12_tree 49 = .ok (.aload_n 0, 1) := by decide +kernel
theorem dX12_tree_50 : decode cX12_tree 50 = .ok (.getfield 158, 3) := by decide +kernel
theorem dX12_tree_53 : decode cX12_tree 53 = .ok (.ifCond .eq 8, 3) := by decide +kernel
theorem dX12_tree_56 : decode cX12_tree 56 = .ok (.aload_n 0, 1) := by decide +kernel
theorem dX12_tree_57 : decode cX12_tree 57 = .ok (.iconst 1, 1) := by decide +kernel
theorem dX12_tree_58 : decode cX12_tree 58 = .ok (.invokevirtual 215, 3) := by decide +kernel
theorem dX12_tree_61 : decode cX12_tree 61 = .ok (.aload_n 0, 1) := by decide +kernel
theorem dX12_tree_62 : decode cX12_tree 62 = .ok (.iconst 0, 1) := by decide +kernel
theorem dX12_tree_63 : decode cX12_tree 63 = .ok (.putfield 149, 3) := by decide +kernel
theorem dX12_tree_66 : decode cX12_tree 66 = .ok (.aload_n 0, 1) := by decide +kernel
theorem dX12_tree_67 : decode cX12_tree 67 = .ok (.aload_n 0, 1) := by decide +kernel
theorem dX12_tree_68 : decode cX12_tree 68 = .ok (.invokevirtual 225, 3) := by decide +kernel
theorem dX12_tree_71 : decode cX12_tree 71 = .ok (.ifCond .eq 7, 3) := by decide +kernel
theorem dX12_tree_74 : decode cX12_tree 74 = .ok (.iconst (-1), 1) := by decide +kernel
theorem dX12_tree_75 : decode cX12_tree 75 = .ok (.goto 7, 3) := by decide +kernel
theorem dX12_tree_78 : decode cX12_tree 78 = .ok (.aload_n 0, 1) := by decide +kernel
theorem dX12_tree_79 : decode cX12_tree 79 = .ok (.getfield 205, 3) := by decide +kernel
theorem dX12_tree_82 : decode cX12_tree 82 = .ok (.putfield 23, 3) := by decide +kernel
theorem dX12_tree_85 : decode cX12_tree 85 = .ok (.aload_n 0, 1) := by decide +kernel
theorem dX12_tree_86 : decode cX12_tree 86 = .ok (.invokevirtual 225, 3) := by decide +kernel
theorem dX12_tree_89 : decode cX12_tree 89 = .ok (.ifCond .ne 11, 3) := by decide +kernel
theorem dX12_tree_92 : decode cX12_tree 92 = .ok (.bipush (-2), 2) := by decide +kernel
theorem dX12_tree_94 : decode cX12_tree 94 = .ok (.aload_n 0, 1) := by decide +kernel
theorem dX12_tree_95 : decode cX12_tree 95 = .ok (.getfield 202, 3) := by decide +kernel
theorem dX12_tree_98 : decode cX12_tree 98 = .ok (.isub, 1) := by decide +kernel
theorem dX12_tree_99 : decode cX12_tree 99 = .ok (.ireturn, 1) := by decide +kernel
theorem dX12_tree_100 : decode cX12_tree 100 = .ok (.aload_n 0, 1) := by decide +kernel
theorem dX12_tree_101 : decode cX12_tree 101 = .ok (.aload_n 0, 1) := by decide +kernel
theorem dX12_tree_102 : decode cX12_tree 102 = .ok (.getfield 208, 3) := by decide +kernel
theorem dX12_tree_105 : decode cX12_tree 105 = .ok (.putfield 243, 3) := by decide +kernel
theorem dX12_tree_108 : decode cX12_tree 108 = .ok (.iconst 0, 1) := by decide +kernel
theorem dX12_tree_109 : decode cX12_tree 109 = .ok (.istore_n 2, 1) := by decide +kernel
theorem dX12_tree_110 : decode cX12_tree 110 = .ok (.iload_n 2, 1) := by decide +kernel
theorem dX12_tree_111 : decode cX12_tree 111 = .ok (.aload_n 0, 1) := by decide +kernel
theorem dX12_tree_112 : decode cX12_tree 112 = .ok (.getfield 243, 3) := by decide +kernel
theorem dX12_tree_115 : decode cX12_tree 115 = .ok (.if_icmp .ge 202, 3) := by decide +kernel
theorem dX12_tree_118 : decode cX12_tree 118 = .ok (.aload_n 0, 1) := by decide +kernel
theorem dX12_tree_119 : decode cX12_tree 119 = .ok (.getfield 26, 3) := by decide +kernel
theorem dX12_tree_122 : decode cX12_tree 122 = .ok (.iload_n 2, 1) := by decide +kernel
theorem dX12_tree_123 : decode cX12_tree 123 = .ok (.aload_n 0, 1) := by decide +kernel
theorem dX12_tree_124 : decode cX12_tree 124 = .ok (.getfield 26, 3) := by decide +kernel
theorem dX12_tree_127 : decode cX12_tree 127 = .ok (.bipush 41, 2) := by decide +kernel
theorem dX12_tree_129 : decode cX12_tree 129 = .ok (.iload_n 2, 1) := by decide +kernel
theorem dX12_tree_130 : decode cX12_tree 130 = .ok (.iadd, 1) := by decide +kernel
theorem dX12_tree_131 : decode cX12_tree 131 = .ok (.iaload, 1) := by decide +kernel
theorem dX12_tree_132 : decode cX12_tree 132 = .ok (.iconst (-1), 1) := by decide +kernel
theorem dX12_tree_133 : decode cX12_tree 133 = .ok (.if_icmp .ne 7, 3) := by decide +kernel
theorem dX12_tree_136 : decode cX12_tree 136 = .ok (.iconst (-1), 1) := by decide +kernel
theorem dX12_tree_137 : decode cX12_tree 137 = .ok (.goto 15, 3) := by decide +kernel
theorem dX12_tree_140 : decode cX12_tree 140 = .ok (.aload_n 0, 1) := by decide +kernel
theorem dX12_tree_141 : decode cX12_tree 141 = .ok (.getfield 26, 3) := by decide +kernel
theorem dX12_tree_144 : decode cX12_tree 144 = .ok (.bipush 41, 2) := by decide +kernel
theorem dX12_tree_146 : decode cX12_tree 146 = .ok (.iload_n 2, 1) := by decide +kernel
theorem dX12_tree_147 : decode cX12_tree 147 = .ok (.iadd, 1) := by decide +kernel
theorem dX12_tree_148 : decode cX12_tree 148 = .ok (.iaload, 1) := by decide +kernel
theorem dX12_tree_149 : decode cX12_tree 149 = .ok (.bipush 41, 2) := by decide +kernel
theorem dX12_tree_151 : decode cX12_tree 151 = .ok (.isub, 1) := by decide +kernel
theorem dX12_tree_152 : decode cX12_tree 152 = .ok (.iastore, 1) := by decide +kernel
theorem dX12_tree_153 : decode cX12_tree 153 = .ok (.aload_n 0, 1) := by decide +kernel
theorem dX12_tree_154 : decode cX12_tree 154 = .ok (.getfield 30, 3) := by decide +kernel
theorem dX12_tree_157 : decode cX12_tree 157 = .ok (.iload_n 2, 1) := by decide +kernel
theorem dX12_tree_158 : decode cX12_tree 158 = .ok (.aload_n 0, 1) := by decide +kernel
theorem dX12_tree_159 : decode cX12_tree 159 = .ok (.getfield 30, 3) := by decide +kernel
theorem dX12_tree_162 : decode cX12_tree 162 = .ok (.bipush 41, 2) := by decide +kernel
theorem dX12_tree_164 : decode cX12_tree 164 = .ok (.iload_n 2, 1) := by decide +kernel
theorem dX12_tree_165 : decode cX12_tree 165 = .ok (.iadd, 1) := by decide +kernel
theorem dX12_tree_166 : decode cX12_tree 166 = .ok (.baload, 1) := by decide +kernel
theorem dX12_tree_167 : decode cX12_tree 167 = .ok (.bastore, 1) := by decide +kernel
theorem dX12_tree_168 : decode cX12_tree 168 = .ok (.aload_n 0, 1) := by decide +kernel
theorem dX12_tree_169 : decode cX12_tree 169 = .ok (.getfield 34, 3) := by decide +kernel
theorem dX12_tree_172 : decode cX12_tree 172 = .ok (.iload_n 2, 1) := by decide +kernel
theorem dX12_tree_173 : decode cX12_tree 173 = .ok (.aload_n 0, 1) := by decide +kernel
theorem dX12_tree_174 : decode cX12_tree 174 = .ok (.getfield 34, 3) := by decide +kernel
theorem dX12_tree_177 : decode cX12_tree 177 = .ok (.bipush 41, 2) := by decide +kernel
theorem dX12_tree_179 : decode cX12_tree 179 = .ok (.iload_n 2, 1) := by decide +kernel
theorem dX12_tree_180 : decode cX12_tree 180 = .ok (.iadd, 1) := by decide +kernel
theorem dX12_tree_181 : decode cX12_tree 181 = .ok (.iaload, 1) := by decide +kernel
theorem dX12_tree_182 : decode cX12_tree 182 = .ok (.iastore, 1) := by decide +kernel
theorem dX12_tree_183 : decode cX12_tree 183 = .ok (.aload_n 0, 1) := by decide +kernel
theorem dX12_tree_184 : decode cX12_tree 184 = .ok (.getfield 37, 3) := by decide +kernel
theorem dX12_tree_187 : decode cX12_tree 187 = .ok (.iload_n 2, 1) := by decide +kernel
theorem dX12_tree_188 : decode cX12_tree 188 = .ok (.aload_n 0, 1) := by decide +kernel
theorem dX12_tree_189 : decode cX12_tree 189 = .ok (.getfield 37, 3) := by decide +kernel
theorem dX12_tree_192 : decode cX12_tree 192 = .ok (.bipush 41, 2) := by decide +kernel
theorem dX12_tree_194 : decode cX12_tree 194 = .ok (.iload_n 2, 1) := by decide +kernel
theorem dX12_tree_195 : decode cX12_tree 195 = .ok (.iadd, 1) := by decide +kernel
theorem dX12_tree_196 : decode cX12_tree 196 = .ok (.iaload, 1) := by decide +kernel
theorem dX12_tree_197 : decode cX12_tree 197 = .ok (.iastore, 1) := by decide +kernel
theorem dX12_tree_198 : decode cX12_tree 198 = .ok (.aload_n 0, 1) := by decide +kernel
theorem dX12_tree_199 : decode cX12_tree 199 = .ok (.getfield 40, 3) := by decide +kernel
theorem dX12_tree_202 : decode cX12_tree 202 = .ok (.iload_n 2, 1) := by decide +kernel
theorem dX12_tree_203 : decode cX12_tree 203 = .ok (.aload_n 0, 1) := by decide +kernel
theorem dX12_tree_204 : decode cX12_tree 204 = .ok (.getfield 40, 3) := by decide +kernel
theorem dX12_tree_207 : decode cX12_tree 207 = .ok (.bipush 41, 2) := by decide +kernel
theorem dX12_tree_209 : decode cX12_tree 209 = .ok (.iload_n 2, 1) := by decide +kernel
theorem dX12_tree_210 : decode cX12_tree 210 = .ok (.iadd, 1) := by decide +kernel
theorem dX12_tree_211 : decode cX12_tree 211 = .ok (.iaload, 1) := by decide +kernel
theorem dX12_tree_212 : decode cX12_tree 212 = .ok (.iastore, 1) := by decide +kernel
theorem dX12_tree_213 : decode cX12_tree 213 = .ok (.aload_n 0, 1) := by decide +kernel
theorem dX12_tree_214 : decode cX12_tree 214 = .ok (.getfield 43, 3) := by decide +kernel
theorem dX12_tree_217 : decode cX12_tree 217 = .ok (.iload_n 2, 1) := by decide +kernel
theorem dX12_tree_218 : decode cX12_tree 218 = .ok (.aload_n 0, 1) := by decide +kernel
theorem dX12_tree_219 : decode cX12_tree 219 = .ok (.getfield 43, 3) := by decide +kernel
theorem dX12_tree_222 : decode cX12_tree 222 = .ok (.bipush 41, 2) := by decide +kernel
theorem dX12_tree_224 : decode cX12_tree 224 = .ok (.iload_n 2, 1) := by decide +kernel
theorem dX12_tree_225 : decode cX12_tree 225 = .ok (.iadd, 1) := by decide +kernel
theorem dX12_tree_226 : decode cX12_tree 226 = .ok (.baload, 1) := by decide +kernel
theorem dX12_tree_227 : decode cX12_tree 227 = .ok (.bastore, 1) := by decide +kernel
theorem dX12_tree_228 : decode cX12_tree 228 = .ok (.aload_n 0, 1) := by decide +kernel
theorem dX12_tree_229 : decode cX12_tree 229 = .ok (.getfield 46, 3) := by decide +kernel
theorem dX12_tree_232 : decode cX12_tree 232 = .ok (.iload_n 2, 1) := by decide +kernel
theorem dX12_tree_233 : decode cX12_tree 233 = .ok (.aload_n 0, 1) := by decide +kernel
theorem dX12_tree_234 : decode cX12_tree 234 = .ok (.getfield 46, 3) := by decide +kernel
theorem dX12_tree_237 : decode cX12_tree 237 = .ok (.bipush 41, 2) := by decide +kernel
theorem dX12_tree_239 : decode cX12_tree 239 = .ok (.iload_n 2, 1) := by decide +kernel
theorem dX12_tree_240 : decode cX12_tree 240 = .ok (.iadd, 1) := by decide +kernel
theorem dX12_tree_241 : decode cX12_tree 241 = .ok (.iaload, 1) := by decide +kernel
theorem dX12_tree_242 : decode cX12_tree 242 = .ok (.iastore, 1) := by decide +kernel
theorem dX12_tree_243 : decode cX12_tree 243 = .ok (.aload_n 0, 1) := by decide +kernel
theorem dX12_tree_244 : decode cX12_tree 244 = .ok (.getfield 49, 3) := by decide +kernel
theorem dX12_tree_247 : decode cX12_tree 247 = .ok (.iload_n 2, 1) := by decide +kernel
theorem dX12_tree_248 : decode cX12_tree 248 = .ok (.aload_n 0, 1) := by decide +kernel
theorem dX12_tree_249 : decode cX12_tree 249 = .ok (.getfield 49, 3) := by decide +kernel
theorem dX12_tree_252 : decode cX12_tree 252 = .ok (.bipush 41, 2) := by decide +kernel
theorem dX12_tree_254 : decode cX12_tree 254 = .ok (.iload_n 2, 1) := by decide +kernel
theorem dX12_tree_255 : decode cX12_tree 255 = .ok (.iadd, 1) := by decide +kernel
theorem dX12_tree_256 : decode cX12_tree 256 = .ok (.iaload, 1) := by decide +kernel
theorem dX12_tree_257 : decode cX12_tree 257 = .ok (.iastore, 1) := by decide +kernel
theorem dX12_tree_258 : decode cX12_tree 258 = .ok (.iconst 0, 1) := by decide +kernel
theorem dX12_tree_259 : decode cX12_tree 259 = .ok (.istore_n 3, 1) := by decide +kernel
theorem dX12_tree_260 : decode cX12_tree 260 = .ok (.iload_n 3, 1) := by decide +kernel
theorem dX12_tree_261 : decode cX12_tree 261 = .ok (.bipush 8, 2) := by decide +kernel
theorem dX12_tree_263 : decode cX12_tree 263 = .ok (.if_icmp .ge 34, 3) := by decide +kernel
theorem dX12_tree_266 : decode cX12_tree 266 = .ok (.aload_n 0, 1) := by decide +kernel
theorem dX12_tree_267 : decode cX12_tree 267 = .ok (.getfield 52, 3) := by decide +kernel
theorem dX12_tree_270 : decode cX12_tree 270 = .ok (.bipush 8, 2) := by decide +kernel
theorem dX12_tree_272 : decode cX12_tree 272 = .ok (.iload_n 2, 1) := by decide +kernel
theorem dX12_tree_273 : decode cX12_tree 273 = .ok (.imul, 1) := by decide +kernel
theorem dX12_tree_274 : decode cX12_tree 274 = .ok (.iload_n 3, 1) := by decide +kernel
theorem dX12_tree_275 : decode cX12_tree 275 = .ok (.iadd, 1) := by decide +kernel
theorem dX12_tree_276 : decode cX12_tree 276 = .ok (.aload_n 0, 1) := by decide +kernel
theorem dX12_tree_277 : decode cX12_tree 277 = .ok (.getfield 52, 3) := by decide +kernel
theorem dX12_tree_280 : decode cX12_tree 280 = .ok (.bipush 8, 2) := by decide +kernel
theorem dX12_tree_282 : decode cX12_tree 282 = .ok (.bipush 41, 2) := by decide +kernel
theorem dX12_tree_284 : decode cX12_tree 284 = .ok (.iload_n 2, 1) := by decide +kernel
theorem dX12_tree_285 : decode cX12_tree 285 = .ok (.iadd, 1) := by decide +kernel
theorem dX12_tree_286 : decode cX12_tree 286 = .ok (.imul, 1) := by decide +kernel
theorem dX12_tree_287 : decode cX12_tree 287 = .ok (.iload_n 3, 1) := by decide +kernel
theorem dX12_tree_288 : decode cX12_tree 288 = .ok (.iadd, 1) := by decide +kernel
theorem dX12_tree_289 : decode cX12_tree 289 = .ok (.baload, 1) := by decide +kernel
theorem dX12_tree_290 : decode cX12_tree 290 = .ok (.bastore, 1) := by decide +kernel
theorem dX12_tree_291 : decode cX12_tree 291 = .ok (.iinc 3 1, 3) := by decide +kernel
theorem dX12_tree_294 : decode cX12_tree 294 = .ok (.goto (-34), 3) := by decide +kernel
theorem dX12_tree_297 : decode cX12_tree 297 = .ok (.aload_n 0, 1) := by decide +kernel
theorem dX12_tree_298 : decode cX12_tree 298 = .ok (.getfield 64, 3) := by decide +kernel
theorem dX12_tree_301 : decode cX12_tree 301 = .ok (.iload_n 2, 1) := by decide +kernel
theorem dX12_tree_302 : decode cX12_tree 302 = .ok (.iconst 0, 1) := by decide +kernel
theorem dX12_tree_303 : decode cX12_tree 303 = .ok (.iastore, 1) := by decide +kernel
theorem dX12_tree_304 : decode cX12_tree 304 = .ok (.aload_n 0, 1) := by decide +kernel
theorem dX12_tree_305 : decode cX12_tree 305 = .ok (.getfield 67, 3) := by decide +kernel
theorem dX12_tree_308 : decode cX12_tree 308 = .ok (.iload_n 2, 1) := by decide +kernel
theorem dX12_tree_309 : decode cX12_tree 309 = .ok (.iconst 0, 1) := by decide +kernel
theorem dX12_tree_310 : decode cX12_tree 310 = .ok (.bastore, 1) := by decide +kernel
theorem dX12_tree_311 : decode cX12_tree 311 = .ok (.iinc 2 1, 3) := by decide +kernel
theorem dX12_tree_314 : decode cX12_tree 314 = .ok (.goto (-204), 3) := by decide +kernel
theorem dX12_tree_317 : decode cX12_tree 317 = .ok (.aload_n 0, 1) := by decide +kernel
theorem dX12_tree_318 : decode cX12_tree 318 = .ok (.iconst 0, 1) := by decide +kernel
theorem dX12_tree_319 : decode cX12_tree 319 = .ok (.putfield 246, 3) := by decide +kernel
theorem dX12_tree_322 : decode cX12_tree 322 = .ok (.aload_n 0, 1) := by decide +kernel
theorem dX12_tree_323 : decode cX12_tree 323 = .ok (.iconst 0, 1) := by decide +kernel
theorem dX12_tree_324 : decode cX12_tree 324 = .ok (.putfield 249, 3) := by decide +kernel
theorem dX12_tree_327 : decode cX12_tree 327 = .ok (.aload_n 0, 1) := by decide +kernel
theorem dX12_tree_328 : decode cX12_tree 328 = .ok (.getfield 243, 3) := by decide +kernel
theorem dX12_tree_331 : decode cX12_tree 331 = .ok (.ireturn, 1) := by decide +kernel
theorem dX12_place_0 : decode cX12_place 0 = .ok (.aload_n 0, 1) := by decide +kernel
theorem dX12_place_1 : decode cX12_place 1 = .ok (.iconst 0, 1) := by decide +kernel
theorem dX12_place_2 : decode cX12_place 2 = .ok (.putfield 1, 3) := by decide +kernel
theorem dX12_place_5 : decode cX12_place 5 = .ok (.aload_n 0, 1) := by decide +kernel
theorem dX12_place_6 : decode cX12_place 6 = .ok (.getfield 23, 3) := by decide +kernel
theorem dX12_place_9 : decode cX12_place 9 = .ok (.ireturn, 1) := by decide +kernel
theorem dX12_isBox_0 : decode cX12_isBox 0 = .ok (.iload_n 1, 1) := by decide +kernel
theorem dX12_isBox_1 : decode cX12_isBox 1 = .ok (.ifCond .lt 15, 3) := by decide +kernel
theorem dX12_isBox_4 : decode cX12_isBox 4 = .ok (.iload_n 1, 1) := by decide +kernel
theorem dX12_isBox_5 : decode cX12_isBox 5 = .ok (.aload_n 0, 1) := by decide +kernel
theorem dX12_isBox_6 : decode cX12_isBox 6 = .ok (.getfield 243, 3) := by decide +kernel
theorem dX12_isBox_9 : decode cX12_isBox 9 = .ok (.if_icmp .ge 7, 3) := by decide +kernel
theorem dX12_isBox_12 : decode cX12_isBox 12 = .ok (.iconst 1, 1) := by decide +kernel
theorem dX12_isBox_13 : decode cX12_isBox 13 = .ok (.goto 4, 3) := by decide +kernel
theorem dX12_isBox_16 : decode cX12_isBox 16 = .ok (.iconst 0, 1) := by decide +kernel
theorem dX12_isBox_17 : decode cX12_isBox 17 = .ok (.ireturn, 1) := by decide +kernel
theorem dX12_size_0 : decode cX12_size 0 = .ok (.aload_n 0, 1) := by decide +kernel
theorem dX12_size_1 : decode cX12_size 1 = .ok (.iconst 0, 1) := by decide +kernel
theorem dX12_size_2 : decode cX12_size 2 = .ok (.putfield 1, 3) := by decide +kernel
theorem dX12_size_5 : decode cX12_size 5 = .ok (.aload_n 0, 1) := by decide +kernel
theorem dX12_size_6 : decode cX12_size 6 = .ok (.iload_n 1, 1) := by decide +kernel
theorem dX12_size_7 : decode cX12_size 7 = .ok (.invokevirtual 252, 3) := by decide +kernel
theorem dX12_size_10 : decode cX12_size 10 = .ok (.ifCond .eq 42, 3) := by decide +kernel
theorem dX12_size_13 : decode cX12_size 13 = .ok (.aload_n 0, 1) := by decide +kernel
theorem dX12_size_14 : decode cX12_size 14 = .ok (.getfield 30, 3) := by decide +kernel
theorem dX12_size_17 : decode cX12_size 17 = .ok (.iload_n 1, 1) := by decide +kernel
theorem dX12_size_18 : decode cX12_size 18 = .ok (.baload, 1) := by decide +kernel
theorem dX12_size_19 : decode cX12_size 19 = .ok (.ifCond .ne 33, 3) := by decide +kernel
theorem dX12_size_22 : decode cX12_size 22 = .ok (.iload_n 2, 1) := by decide +kernel
theorem dX12_size_23 : decode cX12_size 23 = .ok (.iconst 0, 1) := by decide +kernel
theorem dX12_size_24 : decode cX12_size 24 = .ok (.sipush 999, 3) := by decide +kernel
theorem dX12_size_27 : decode cX12_size 27 = .ok (.invokestatic 142, 3) := by decide +kernel
theorem dX12_size_30 : decode cX12_size 30 = .ok (.ifCond .eq 22, 3) := by decide +kernel
theorem dX12_size_33 : decode cX12_size 33 = .ok (.iload_n 3, 1) := by decide +kernel
theorem dX12_size_34 : decode cX12_size 34 = .ok (.iconst 0, 1) := by decide +kernel
theorem dX12_size_35 : decode cX12_size 35 = .ok (.ldc 255, 2) := by decide +kernel
theorem dX12_size_37 : decode cX12_size 37 = .ok (.invokestatic 142, 3) := by decide +kernel
theorem dX12_size_40 : decode cX12_size 40 = .ok (.ifCond .eq 12, 3) := by decide +kernel
theorem dX12_size_43 : decode cX12_size 43 = .ok (.aload_n 0, 1) := by decide +kernel
theorem dX12_size_44 : decode cX12_size 44 = .ok (.getfield 246, 3) := by decide +kernel
theorem dX12_size_47 : decode cX12_size 47 = .ok (.bipush 100, 2) := by decide +kernel
theorem dX12_size_49 : decode cX12_size 49 = .ok (.if_icmp .ne 5, 3) := by decide +kernel
theorem dX12_size_52 : decode cX12_size 52 = .ok (.iconst (-1), 1) := by decide +kernel
theorem dX12_size_53 : decode cX12_size 53 = .ok (.ireturn, 1) := by decide +kernel
theorem dX12_size_54 : decode cX12_size 54 = .ok (.aload_n 0, 1) := by decide +kernel
theorem dX12_size_55 : decode cX12_size 55 = .ok (.getfield 55, 3) := by decide +kernel
theorem dX12_size_58 : decode cX12_size 58 = .ok (.aload_n 0, 1) := by decide +kernel
theorem dX12_size_59 : decode cX12_size 59 = .ok (.getfield 246, 3) := by decide +kernel
theorem dX12_size_62 : decode cX12_size 62 = .ok (.iload_n 1, 1) := by decide +kernel
theorem dX12_size_63 : decode cX12_size 63 = .ok (.iastore, 1) := by decide +kernel
theorem dX12_size_64 : decode cX12_size 64 = .ok (.aload_n 0, 1) := by decide +kernel
theorem dX12_size_65 : decode cX12_size 65 = .ok (.getfield 58, 3) := by decide +kernel
theorem dX12_size_68 : decode cX12_size 68 = .ok (.aload_n 0, 1) := by decide +kernel
theorem dX12_size_69 : decode cX12_size 69 = .ok (.getfield 246, 3) := by decide +kernel
theorem dX12_size_72 : decode cX12_size 72 = .ok (.iload_n 2, 1) := by decide +kernel
theorem dX12_size_73 : decode cX12_size 73 = .ok (.iastore, 1) := by decide +kernel
theorem dX12_size_74 : decode cX12_size 74 = .ok (.aload_n 0, 1) := by decide +kernel
theorem dX12_size_75 : decode cX12_size 75 = .ok (.getfield 61, 3) := by decide +kernel
theorem dX12_size_78 : decode cX12_size 78 = .ok (.aload_n 0, 1) := by decide +kernel
theorem dX12_size_79 : decode cX12_size 79 = .ok (.getfield 246, 3) := by decide +kernel
theorem dX12_size_82 : decode cX12_size 82 = .ok (.iload_n 3, 1) := by decide +kernel
theorem dX12_size_83 : decode cX12_size 83 = .ok (.iastore, 1) := by decide +kernel
theorem dX12_size_84 : decode cX12_size 84 = .ok (.aload_n 0, 1) := by decide +kernel
theorem dX12_size_85 : decode cX12_size 85 = .ok (.dup, 1) := by decide +kernel
theorem dX12_size_86 : decode cX12_size 86 = .ok (.getfield 246, 3) := by decide +kernel
theorem dX12_size_89 : decode cX12_size 89 = .ok (.iconst 1, 1) := by decide +kernel
theorem dX12_size_90 : decode cX12_size 90 = .ok (.iadd, 1) := by decide +kernel
theorem dX12_size_91 : decode cX12_size 91 = .ok (.putfield 246, 3) := by decide +kernel
theorem dX12_size_94 : decode cX12_size 94 = .ok (.aload_n 0, 1) := by decide +kernel
theorem dX12_size_95 : decode cX12_size 95 = .ok (.getfield 246, 3) := by decide +kernel
theorem dX12_size_98 : decode cX12_size 98 = .ok (.iconst 1, 1) := by decide +kernel
theorem dX12_size_99 : decode cX12_size 99 = .ok (.isub, 1) := by decide +kernel
theorem dX12_size_100 : decode cX12_size 100 = .ok (.ireturn, 1) := by decide +kernel
theorem dX12_sizeOf_0 : decode cX12_sizeOf 0 = .ok (.aload_n 0, 1) := by decide +kernel
theorem dX12_sizeOf_1 : decode cX12_sizeOf 1 = .ok (.getfield 30, 3) := by decide +kernel
theorem dX12_sizeOf_4 : decode cX12_sizeOf 4 = .ok (.iload_n 1, 1) := by decide +kernel
theorem dX12_sizeOf_5 : decode cX12_sizeOf 5 = .ok (.baload, 1) := by decide +kernel
theorem dX12_sizeOf_6 : decode cX12_sizeOf 6 = .ok (.ifCond .eq 48, 3) := by decide +kernel
theorem dX12_sizeOf_9 : decode cX12_sizeOf 9 = .ok (.iconst 0, 1) := by decide +kernel
theorem dX12_sizeOf_10 : decode cX12_sizeOf 10 = .ok (.istore_n 3, 1) := by decide +kernel
theorem dX12_sizeOf_11 : decode cX12_sizeOf 11 = .ok (.iload_n 1, 1) := by decide +kernel
theorem dX12_sizeOf_12 : decode cX12_sizeOf 12 = .ok (.iconst 1, 1) := by decide +kernel
theorem dX12_sizeOf_13 : decode cX12_sizeOf 13 = .ok (.iadd, 1) := by decide +kernel
theorem dX12_sizeOf_14 : decode cX12_sizeOf 14 = .ok (.istore 4, 2) := by decide +kernel
theorem dX12_sizeOf_16 : decode cX12_sizeOf 16 = .ok (.iload 4, 2) := by decide +kernel
theorem dX12_sizeOf_18 : decode cX12_sizeOf 18 = .ok (.aload_n 0, 1) := by decide +kernel
theorem dX12_sizeOf_19 : decode cX12_sizeOf 19 = .ok (.getfield 243, 3) := by decide +kernel
theorem dX12_sizeOf_22 : decode cX12_sizeOf 22 = .ok (.if_icmp .ge 30, 3) := by decide +kernel
theorem dX12_sizeOf_25 : decode cX12_sizeOf 25 = .ok (.aload_n 0, 1) := by decide +kernel
theorem dX12_sizeOf_26 : decode cX12_sizeOf 26 = .ok (.getfield 26, 3) := by decide +kernel
theorem dX12_sizeOf_29 : decode cX12_sizeOf 29 = .ok (.iload 4, 2) := by decide +kernel
theorem dX12_sizeOf_31 : decode cX12_sizeOf 31 = .ok (.iaload, 1) := by decide +kernel
theorem dX12_sizeOf_32 : decode cX12_sizeOf 32 = .ok (.iload_n 1, 1) := by decide +kernel
theorem dX12_sizeOf_33 : decode cX12_sizeOf 33 = .ok (.if_icmp .ne 13, 3) := by decide +kernel
theorem dX12_sizeOf_36 : decode cX12_sizeOf 36 = .ok (.iload_n 3, 1) := by decide +kernel
theorem dX12_sizeOf_37 : decode cX12_sizeOf 37 = .ok (.aload_n 0, 1) := by decide +kernel
theorem dX12_sizeOf_38 : decode cX12_sizeOf 38 = .ok (.iload 4, 2) := by decide +kernel
theorem dX12_sizeOf_40 : decode cX12_sizeOf 40 = .ok (.iload_n 2, 1) := by decide +kernel
theorem dX12_sizeOf_41 : decode cX12_sizeOf 41 = .ok (.invokevirtual 256, 3) := by decide +kernel
theorem dX12_sizeOf_44 : decode cX12_sizeOf 44 = .ok (.iadd, 1) := by decide +kernel
theorem dX12_sizeOf_45 : decode cX12_sizeOf 45 = .ok (.istore_n 3, 1) := by decide +kernel
theorem dX12_sizeOf_46 : decode cX12_sizeOf 46 = .ok (.iinc 4 1, 3) := by decide +kernel
theorem dX12_sizeOf_49 : decode cX12_sizeOf 49 = .ok (.goto (-33), 3) := by decide +kernel
theorem dX12_sizeOf_52 : decode cX12_sizeOf 52 = .ok (.iload_n 3, 1) := by decide +kernel
theorem dX12_sizeOf_53 : decode cX12_sizeOf 53 = .ok (.ireturn, 1) := by decide +kernel
theorem dX12_sizeOf_54 : decode cX12_sizeOf 54 = .ok (.iconst (-1), 1) := by decide +kernel
theorem dX12_sizeOf_55 : decode cX12_sizeOf 55 = .ok (.istore_n 3, 1) := by decide +kernel
theorem dX12_sizeOf_56 : decode cX12_sizeOf 56 = .ok (.iconst 0, 1) := by decide +kernel
theorem dX12_sizeOf_57 : decode cX12_sizeOf 57 = .ok (.istore 4, 2) := by decide +kernel
theorem dX12_sizeOf_59 : decode cX12_sizeOf 59 = .ok (.iload 4, 2) := by decide +kernel
theorem dX12_sizeOf_61 : decode cX12_sizeOf 61 = .ok (.aload_n 0, 1) := by decide +kernel
theorem dX12_sizeOf_62 : decode cX12_sizeOf 62 = .ok (.getfield 246, 3) := by decide +kernel
theorem dX12_sizeOf_65 : decode cX12_sizeOf 65 = .ok (.if_icmp .ge 55, 3) := by decide +kernel
theorem dX12_sizeOf_68 : decode cX12_sizeOf 68 = .ok (.aload_n 0, 1) := by decide +kernel
theorem dX12_sizeOf_69 : decode cX12_sizeOf 69 = .ok (.getfield 55, 3) := by decide +kernel
theorem dX12_sizeOf_72 : decode cX12_sizeOf 72 = .ok (.iload 4, 2) := by decide +kernel
theorem dX12_sizeOf_74 : decode cX12_sizeOf 74 = .ok (.iaload, 1) := by decide +kernel
theorem dX12_sizeOf_75 : decode cX12_sizeOf 75 = .ok (.iload_n 1, 1) := by decide +kernel
theorem dX12_sizeOf_76 : decode cX12_sizeOf 76 = .ok (.if_icmp .ne 38, 3) := by decide +kernel
theorem dX12_sizeOf_79 : decode cX12_sizeOf 79 = .ok (.aload_n 0, 1) := by decide +kernel
theorem dX12_sizeOf_80 : decode cX12_sizeOf 80 = .ok (.getfield 58, 3) := by decide +kernel
theorem dX12_sizeOf_83 : decode cX12_sizeOf 83 = .ok (.iload 4, 2) := by decide +kernel
theorem dX12_sizeOf_85 : decode cX12_sizeOf 85 = .ok (.iaload, 1) := by decide +kernel
theorem dX12_sizeOf_86 : decode cX12_sizeOf 86 = .ok (.iload_n 2, 1) := by decide +kernel
theorem dX12_sizeOf_87 : decode cX12_sizeOf 87 = .ok (.if_icmp .gt 27, 3) := by decide +kernel
theorem dX12_sizeOf_90 : decode cX12_sizeOf 90 = .ok (.iload_n 3, 1) := by decide +kernel
theorem dX12_sizeOf_91 : decode cX12_sizeOf 91 = .ok (.iconst (-1), 1) := by decide +kernel
theorem dX12_sizeOf_92 : decode cX12_sizeOf 92 = .ok (.if_icmp .eq 19, 3) := by decide +kernel
theorem dX12_sizeOf_95 : decode cX12_sizeOf 95 = .ok (.aload_n 0, 1) := by decide +kernel
theorem dX12_sizeOf_96 : decode cX12_sizeOf 96 = .ok (.getfield 58, 3) := by decide +kernel
theorem dX12_sizeOf_99 : decode cX12_sizeOf 99 = .ok (.iload 4, 2) := by decide +kernel
theorem dX12_sizeOf_101 : decode cX12_sizeOf 101 = .ok (.iaload, 1) := by decide +kernel
theorem dX12_sizeOf_102 : decode cX12_sizeOf 102 = .ok (.aload_n 0, 1) := by decide +kernel
theorem dX12_sizeOf_103 : decode cX12_sizeOf 103 = .ok (.getfield 58, 3) := by decide +kernel
theorem dX12_sizeOf_106 : decode cX12_sizeOf 106 = .ok (.iload_n 3, 1) := by decide +kernel
theorem dX12_sizeOf_107 : decode cX12_sizeOf 107 = .ok (.iaload, 1) := by decide +kernel
theorem dX12_sizeOf_108 : decode cX12_sizeOf 108 = .ok (.if_icmp .lt 6, 3) := by decide +kernel
theorem dX12_sizeOf_111 : decode cX12_sizeOf 111 = .ok (.iload 4, 2) := by decide +kernel
theorem dX12_sizeOf_113 : decode cX12_sizeOf 113 = .ok (.istore_n 3, 1) := by decide +kernel
theorem dX12_sizeOf_114 : decode cX12_sizeOf 114 = .ok (.iinc 4 1, 3) := by decide +kernel
theorem dX12_sizeOf_117 : decode cX12_sizeOf 117 = .ok (.goto (-58), 3) := by decide +kernel
theorem dX12_sizeOf_120 : decode cX12_sizeOf 120 = .ok (.iload_n 3, 1) := by decide +kernel
theorem dX12_sizeOf_121 : decode cX12_sizeOf 121 = .ok (.iconst (-1), 1) := by decide +kernel
theorem dX12_sizeOf_122 : decode cX12_sizeOf 122 = .ok (.if_icmp .ne 12, 3) := by decide +kernel
theorem dX12_sizeOf_125 : decode cX12_sizeOf 125 = .ok (.aload_n 0, 1) := by decide +kernel
theorem dX12_sizeOf_126 : decode cX12_sizeOf 126 = .ok (.getfield 46, 3) := by decide +kernel
theorem dX12_sizeOf_129 : decode cX12_sizeOf 129 = .ok (.iload_n 1, 1) := by decide +kernel
theorem dX12_sizeOf_130 : decode cX12_sizeOf 130 = .ok (.iaload, 1) := by decide +kernel
theorem dX12_sizeOf_131 : decode cX12_sizeOf 131 = .ok (.goto 9, 3) := by decide +kernel
theorem dX12_sizeOf_134 : decode cX12_sizeOf 134 = .ok (.aload_n 0, 1) := by decide +kernel
theorem dX12_sizeOf_135 : decode cX12_sizeOf 135 = .ok (.getfield 61, 3) := by decide +kernel
theorem dX12_sizeOf_138 : decode cX12_sizeOf 138 = .ok (.iload_n 3, 1) := by decide +kernel
theorem dX12_sizeOf_139 : decode cX12_sizeOf 139 = .ok (.iaload, 1) := by decide +kernel
theorem dX12_sizeOf_140 : decode cX12_sizeOf 140 = .ok (.ireturn, 1) := by decide +kernel
theorem dX12_sizeIn_0 : decode cX12_sizeIn 0 = .ok (.aload_n 0, 1) := by decide +kernel
theorem dX12_sizeIn_1 : decode cX12_sizeIn 1 = .ok (.iconst 0, 1) := by decide +kernel
theorem dX12_sizeIn_2 : decode cX12_sizeIn 2 = .ok (.putfield 1, 3) := by decide +kernel
theorem dX12_sizeIn_5 : decode cX12_sizeIn 5 = .ok (.aload_n 0, 1) := by decide +kernel
theorem dX12_sizeIn_6 : decode cX12_sizeIn 6 = .ok (.iload_n 1, 1) := by decide +kernel
theorem dX12_sizeIn_7 : decode cX12_sizeIn 7 = .ok (.invokevirtual 252, 3) := by decide +kernel
theorem dX12_sizeIn_10 : decode cX12_sizeIn 10 = .ok (.ifCond .eq 23, 3) := by decide +kernel
theorem dX12_sizeIn_13 : decode cX12_sizeIn 13 = .ok (.iload_n 2, 1) := by decide +kernel
theorem dX12_sizeIn_14 : decode cX12_sizeIn 14 = .ok (.iconst 0, 1) := by decide +kernel
theorem dX12_sizeIn_15 : decode cX12_sizeIn 15 = .ok (.sipush 999, 3) := by decide +kernel
theorem dX12_sizeIn_18 : decode cX12_sizeIn 18 = .ok (.invokestatic 142, 3) := by decide +kernel
theorem dX12_sizeIn_21 : decode cX12_sizeIn 21 = .ok (.ifCond .eq 12, 3) := by decide +kernel
theorem dX12_sizeIn_24 : decode cX12_sizeIn 24 = .ok (.aload_n 0, 1) := by decide +kernel
theorem dX12_sizeIn_25 : decode cX12_sizeIn 25 = .ok (.iload_n 1, 1) := by decide +kernel
theorem dX12_sizeIn_26 : decode cX12_sizeIn 26 = .ok (.iload_n 2, 1) := by decide +kernel
theorem dX12_sizeIn_27 : decode cX12_sizeIn 27 = .ok (.invokevirtual 256, 3) := by decide +kernel
theorem dX12_sizeIn_30 : decode cX12_sizeIn 30 = .ok (.goto 4, 3) := by decide +kernel
theorem dX12_sizeIn_33 : decode cX12_sizeIn 33 = .ok (.iconst (-1), 1) := by decide +kernel
theorem dX12_sizeIn_34 : decode cX12_sizeIn 34 = .ok (.ireturn, 1) := by decide +kernel
theorem dX12_rest_0 : decode cX12_rest 0 = .ok (.aload_n 0, 1) := by decide +kernel
theorem dX12_rest_1 : decode cX12_rest 1 = .ok (.iconst 0, 1) := by decide +kernel
theorem dX12_rest_2 : decode cX12_rest 2 = .ok (.putfield 1, 3) := by decide +kernel
theorem dX12_rest_5 : decode cX12_rest 5 = .ok (.aload_n 0, 1) := by decide +kernel
theorem dX12_rest_6 : decode cX12_rest 6 = .ok (.iload_n 1, 1) := by decide +kernel
theorem dX12_rest_7 : decode cX12_rest 7 = .ok (.invokevirtual 252, 3) := by decide +kernel
theorem dX12_rest_10 : decode cX12_rest 10 = .ok (.ifCond .eq 23, 3) := by decide +kernel
theorem dX12_rest_13 : decode cX12_rest 13 = .ok (.aload_n 0, 1) := by decide +kernel
theorem dX12_rest_14 : decode cX12_rest 14 = .ok (.getfield 30, 3) := by decide +kernel
theorem dX12_rest_17 : decode cX12_rest 17 = .ok (.iload_n 1, 1) := by decide +kernel
theorem dX12_rest_18 : decode cX12_rest 18 = .ok (.baload, 1) := by decide +kernel
theorem dX12_rest_19 : decode cX12_rest 19 = .ok (.ifCond .eq 14, 3) := by decide +kernel
theorem dX12_rest_22 : decode cX12_rest 22 = .ok (.iload_n 2, 1) := by decide +kernel
theorem dX12_rest_23 : decode cX12_rest 23 = .ok (.iconst 0, 1) := by decide +kernel

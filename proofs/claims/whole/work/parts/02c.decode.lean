theorem dX10_init_0 : decode cX10_init 0 = .ok (.aload_n 0, 1) := by decide +kernel
theorem dX10_init_1 : decode cX10_init 1 = .ok (.invokespecial 1, 3) := by decide +kernel
theorem dX10_init_4 : decode cX10_init 4 = .ok (.aload_n 0, 1) := by decide +kernel
theorem dX10_init_5 : decode cX10_init 5 = .ok (.bipush 96, 2) := by decide +kernel
theorem dX10_init_7 : decode cX10_init 7 = .ok (.newarray .long, 2) := by decide +kernel
theorem dX10_init_9 : decode cX10_init 9 = .ok (.putfield 7, 3) := by decide +kernel
theorem dX10_init_12 : decode cX10_init 12 = .ok (.aload_n 0, 1) := by decide +kernel
theorem dX10_init_13 : decode cX10_init 13 = .ok (.sipush 400, 3) := by decide +kernel
theorem dX10_init_16 : decode cX10_init 16 = .ok (.newarray .int, 2) := by decide +kernel
theorem dX10_init_18 : decode cX10_init 18 = .ok (.putfield 13, 3) := by decide +kernel
theorem dX10_init_21 : decode cX10_init 21 = .ok (.aload_n 0, 1) := by decide +kernel
theorem dX10_init_22 : decode cX10_init 22 = .ok (.sipush 400, 3) := by decide +kernel
theorem dX10_init_25 : decode cX10_init 25 = .ok (.putfield 17, 3) := by decide +kernel
theorem dX10_init_28 : decode cX10_init 28 = .ok (.aload_n 0, 1) := by decide +kernel
theorem dX10_init_29 : decode cX10_init 29 = .ok (.sipush 768, 3) := by decide +kernel
theorem dX10_init_32 : decode cX10_init 32 = .ok (.newarray .long, 2) := by decide +kernel
theorem dX10_init_34 : decode cX10_init 34 = .ok (.putfield 21, 3) := by decide +kernel
theorem dX10_init_37 : decode cX10_init 37 = .ok (.aload_n 0, 1) := by decide +kernel
theorem dX10_init_38 : decode cX10_init 38 = .ok (.bipush 32, 2) := by decide +kernel
theorem dX10_init_40 : decode cX10_init 40 = .ok (.newarray .long, 2) := by decide +kernel
theorem dX10_init_42 : decode cX10_init 42 = .ok (.putfield 24, 3) := by decide +kernel
theorem dX10_init_45 : decode cX10_init 45 = .ok (.aload_n 0, 1) := by decide +kernel
theorem dX10_init_46 : decode cX10_init 46 = .ok (.bipush 64, 2) := by decide +kernel
theorem dX10_init_48 : decode cX10_init 48 = .ok (.newarray .long, 2) := by decide +kernel
theorem dX10_init_50 : decode cX10_init 50 = .ok (.putfield 27, 3) := by decide +kernel
theorem dX10_init_53 : decode cX10_init 53 = .ok (.aload_n 0, 1) := by decide +kernel
theorem dX10_init_54 : decode cX10_init 54 = .ok (.bipush 8, 2) := by decide +kernel
theorem dX10_init_56 : decode cX10_init 56 = .ok (.newarray .long, 2) := by decide +kernel
theorem dX10_init_58 : decode cX10_init 58 = .ok (.putfield 30, 3) := by decide +kernel
theorem dX10_init_61 : decode cX10_init 61 = .ok (.aload_n 0, 1) := by decide +kernel
theorem dX10_init_62 : decode cX10_init 62 = .ok (.bipush 80, 2) := by decide +kernel
theorem dX10_init_64 : decode cX10_init 64 = .ok (.newarray .long, 2) := by decide +kernel
theorem dX10_init_66 : decode cX10_init 66 = .ok (.putfield 33, 3) := by decide +kernel
theorem dX10_init_69 : decode cX10_init 69 = .ok (.aload_n 0, 1) := by decide +kernel
theorem dX10_init_70 : decode cX10_init 70 = .ok (.bipush 6, 2) := by decide +kernel
theorem dX10_init_72 : decode cX10_init 72 = .ok (.newarray .long, 2) := by decide +kernel
theorem dX10_init_74 : decode cX10_init 74 = .ok (.putfield 36, 3) := by decide +kernel
theorem dX10_init_77 : decode cX10_init 77 = .ok (.aload_n 0, 1) := by decide +kernel
theorem dX10_init_78 : decode cX10_init 78 = .ok (.bipush 12, 2) := by decide +kernel
theorem dX10_init_80 : decode cX10_init 80 = .ok (.newarray .long, 2) := by decide +kernel
theorem dX10_init_82 : decode cX10_init 82 = .ok (.putfield 39, 3) := by decide +kernel
theorem dX10_init_85 : decode cX10_init 85 = .ok (.aload_n 0, 1) := by decide +kernel
theorem dX10_init_86 : decode cX10_init 86 = .ok (.bipush 18, 2) := by decide +kernel
theorem dX10_init_88 : decode cX10_init 88 = .ok (.newarray .long, 2) := by decide +kernel
theorem dX10_init_90 : decode cX10_init 90 = .ok (.putfield 42, 3) := by decide +kernel
theorem dX10_init_93 : decode cX10_init 93 = .ok (.aload_n 0, 1) := by decide +kernel
theorem dX10_init_94 : decode cX10_init 94 = .ok (.sipush 768, 3) := by decide +kernel
theorem dX10_init_97 : decode cX10_init 97 = .ok (.newarray .int, 2) := by decide +kernel
theorem dX10_init_99 : decode cX10_init 99 = .ok (.putfield 45, 3) := by decide +kernel
theorem dX10_init_102 : decode cX10_init 102 = .ok (.aload_n 0, 1) := by decide +kernel
theorem dX10_init_103 : decode cX10_init 103 = .ok (.bipush 80, 2) := by decide +kernel
theorem dX10_init_105 : decode cX10_init 105 = .ok (.newarray .long, 2) := by decide +kernel
theorem dX10_init_107 : decode cX10_init 107 = .ok (.putfield 48, 3) := by decide +kernel
theorem dX10_init_110 : decode cX10_init 110 = .ok (.aload_n 0, 1) := by decide +kernel
theorem dX10_init_111 : decode cX10_init 111 = .ok (.bipush 8, 2) := by decide +kernel
theorem dX10_init_113 : decode cX10_init 113 = .ok (.newarray .long, 2) := by decide +kernel
theorem dX10_init_115 : decode cX10_init 115 = .ok (.putfield 51, 3) := by decide +kernel
theorem dX10_init_118 : decode cX10_init 118 = .ok (.aload_n 0, 1) := by decide +kernel
theorem dX10_init_119 : decode cX10_init 119 = .ok (.bipush 8, 2) := by decide +kernel
theorem dX10_init_121 : decode cX10_init 121 = .ok (.newarray .long, 2) := by decide +kernel
theorem dX10_init_123 : decode cX10_init 123 = .ok (.putfield 54, 3) := by decide +kernel
theorem dX10_init_126 : decode cX10_init 126 = .ok (.aload_n 0, 1) := by decide +kernel
theorem dX10_init_127 : decode cX10_init 127 = .ok (.bipush 64, 2) := by decide +kernel
theorem dX10_init_129 : decode cX10_init 129 = .ok (.newarray .int, 2) := by decide +kernel
theorem dX10_init_131 : decode cX10_init 131 = .ok (.putfield 57, 3) := by decide +kernel
theorem dX10_init_134 : decode cX10_init 134 = .ok (.aload_n 0, 1) := by decide +kernel
theorem dX10_init_135 : decode cX10_init 135 = .ok (.bipush 40, 2) := by decide +kernel
theorem dX10_init_137 : decode cX10_init 137 = .ok (.newarray .long, 2) := by decide +kernel
theorem dX10_init_139 : decode cX10_init 139 = .ok (.putfield 60, 3) := by decide +kernel
theorem dX10_init_142 : decode cX10_init 142 = .ok (.aload_n 0, 1) := by decide +kernel
theorem dX10_init_143 : decode cX10_init 143 = .ok (.bipush 18, 2) := by decide +kernel
theorem dX10_init_145 : decode cX10_init 145 = .ok (.newarray .long, 2) := by decide +kernel
theorem dX10_init_147 : decode cX10_init 147 = .ok (.putfield 63, 3) := by decide +kernel
theorem dX10_init_150 : decode cX10_init 150 = .ok (.aload_n 0, 1) := by decide +kernel
theorem dX10_init_151 : decode cX10_init 151 = .ok (.bipush 36, 2) := by decide +kernel
theorem dX10_init_153 : decode cX10_init 153 = .ok (.ldc2_w 66, 3) := by decide +kernel
theorem dX10_init_156 : decode cX10_init 156 = .ok (.ldc2_w 68, 3) := by decide +kernel
theorem dX10_init_159 : decode cX10_init 159 = .ok (.ldc2_w 68, 3) := by decide +kernel
theorem dX10_init_162 : decode cX10_init 162 = .ok (.ldc2_w 70, 3) := by decide +kernel
theorem dX10_init_165 : decode cX10_init 165 = .ok (.invokevirtual 72, 3) := by decide +kernel
theorem dX10_init_168 : decode cX10_init 168 = .ok (.aload_n 0, 1) := by decide +kernel
theorem dX10_init_169 : decode cX10_init 169 = .ok (.bipush 32, 2) := by decide +kernel
theorem dX10_init_171 : decode cX10_init 171 = .ok (.ldc2_w 76, 3) := by decide +kernel
theorem dX10_init_174 : decode cX10_init 174 = .ok (.ldc2_w 78, 3) := by decide +kernel
theorem dX10_init_177 : decode cX10_init 177 = .ok (.lconst 0, 1) := by decide +kernel
theorem dX10_init_178 : decode cX10_init 178 = .ok (.ldc2_w 80, 3) := by decide +kernel
theorem dX10_init_181 : decode cX10_init 181 = .ok (.invokevirtual 72, 3) := by decide +kernel
theorem dX10_init_184 : decode cX10_init 184 = .ok (.aload_n 0, 1) := by decide +kernel
theorem dX10_init_185 : decode cX10_init 185 = .ok (.iconst 1, 1) := by decide +kernel
theorem dX10_init_186 : decode cX10_init 186 = .ok (.lconst 1, 1) := by decide +kernel
theorem dX10_init_187 : decode cX10_init 187 = .ok (.invokevirtual 82, 3) := by decide +kernel
theorem dX10_init_190 : decode cX10_init 190 = .ok (.aload_n 0, 1) := by decide +kernel
theorem dX10_init_191 : decode cX10_init 191 = .ok (.bipush 26, 2) := by decide +kernel
theorem dX10_init_193 : decode cX10_init 193 = .ok (.ldc2_w 86, 3) := by decide +kernel
theorem dX10_init_196 : decode cX10_init 196 = .ok (.invokevirtual 82, 3) := by decide +kernel
theorem dX10_init_199 : decode cX10_init 199 = .ok (.aload_n 0, 1) := by decide +kernel
theorem dX10_init_200 : decode cX10_init 200 = .ok (.iconst 0, 1) := by decide +kernel
theorem dX10_init_201 : decode cX10_init 201 = .ok (.ldc2_w 88, 3) := by decide +kernel
theorem dX10_init_204 : decode cX10_init 204 = .ok (.ldc2_w 68, 3) := by decide +kernel
theorem dX10_init_207 : decode cX10_init 207 = .ok (.ldc2_w 68, 3) := by decide +kernel
theorem dX10_init_210 : decode cX10_init 210 = .ok (.ldc2_w 90, 3) := by decide +kernel
theorem dX10_init_213 : decode cX10_init 213 = .ok (.invokevirtual 72, 3) := by decide +kernel
theorem dX10_init_216 : decode cX10_init 216 = .ok (.aload_n 0, 1) := by decide +kernel
theorem dX10_init_217 : decode cX10_init 217 = .ok (.iconst 4, 1) := by decide +kernel
theorem dX10_init_218 : decode cX10_init 218 = .ok (.bipush 26, 2) := by decide +kernel
theorem dX10_init_220 : decode cX10_init 220 = .ok (.iconst 0, 1) := by decide +kernel
theorem dX10_init_221 : decode cX10_init 221 = .ok (.invokevirtual 92, 3) := by decide +kernel
theorem dX10_init_224 : decode cX10_init 224 = .ok (.aload_n 0, 1) := by decide +kernel
theorem dX10_init_225 : decode cX10_init 225 = .ok (.bipush 26, 2) := by decide +kernel
theorem dX10_init_227 : decode cX10_init 227 = .ok (.ldc2_w 96, 3) := by decide +kernel
theorem dX10_init_230 : decode cX10_init 230 = .ok (.invokevirtual 82, 3) := by decide +kernel
theorem dX10_init_233 : decode cX10_init 233 = .ok (.aload_n 0, 1) := by decide +kernel
theorem dX10_init_234 : decode cX10_init 234 = .ok (.bipush 26, 2) := by decide +kernel
theorem dX10_init_236 : decode cX10_init 236 = .ok (.iconst 0, 1) := by decide +kernel
theorem dX10_init_237 : decode cX10_init 237 = .ok (.bipush 26, 2) := by decide +kernel
theorem dX10_init_239 : decode cX10_init 239 = .ok (.invokevirtual 98, 3) := by decide +kernel
theorem dX10_init_242 : decode cX10_init 242 = .ok (.aload_n 0, 1) := by decide +kernel
theorem dX10_init_243 : decode cX10_init 243 = .ok (.bipush 41, 2) := by decide +kernel
theorem dX10_init_245 : decode cX10_init 245 = .ok (.ldc2_w 101, 3) := by decide +kernel
theorem dX10_init_248 : decode cX10_init 248 = .ok (.invokevirtual 82, 3) := by decide +kernel
theorem dX10_init_251 : decode cX10_init 251 = .ok (.aload_n 0, 1) := by decide +kernel
theorem dX10_init_252 : decode cX10_init 252 = .ok (.bipush 41, 2) := by decide +kernel
theorem dX10_init_254 : decode cX10_init 254 = .ok (.bipush 41, 2) := by decide +kernel
theorem dX10_init_256 : decode cX10_init 256 = .ok (.invokevirtual 103, 3) := by decide +kernel
theorem dX10_init_259 : decode cX10_init 259 = .ok (.aload_n 0, 1) := by decide +kernel
theorem dX10_init_260 : decode cX10_init 260 = .ok (.iconst 2, 1) := by decide +kernel
theorem dX10_init_261 : decode cX10_init 261 = .ok (.bipush 26, 2) := by decide +kernel
theorem dX10_init_263 : decode cX10_init 263 = .ok (.bipush 41, 2) := by decide +kernel
theorem dX10_init_265 : decode cX10_init 265 = .ok (.invokevirtual 107, 3) := by decide +kernel
theorem dX10_init_268 : decode cX10_init 268 = .ok (.aload_n 0, 1) := by decide +kernel
theorem dX10_init_269 : decode cX10_init 269 = .ok (.iconst 3, 1) := by decide +kernel
theorem dX10_init_270 : decode cX10_init 270 = .ok (.iconst 2, 1) := by decide +kernel
theorem dX10_init_271 : decode cX10_init 271 = .ok (.iconst 2, 1) := by decide +kernel
theorem dX10_init_272 : decode cX10_init 272 = .ok (.invokevirtual 110, 3) := by decide +kernel
theorem dX10_init_275 : decode cX10_init 275 = .ok (.aload_n 0, 1) := by decide +kernel
theorem dX10_init_276 : decode cX10_init 276 = .ok (.iconst 3, 1) := by decide +kernel
theorem dX10_init_277 : decode cX10_init 277 = .ok (.invokevirtual 113, 3) := by decide +kernel
theorem dX10_init_280 : decode cX10_init 280 = .ok (.aload_n 0, 1) := by decide +kernel
theorem dX10_init_281 : decode cX10_init 281 = .ok (.bipush 26, 2) := by decide +kernel
theorem dX10_init_283 : decode cX10_init 283 = .ok (.ldc2_w 117, 3) := by decide +kernel
theorem dX10_init_286 : decode cX10_init 286 = .ok (.invokevirtual 82, 3) := by decide +kernel
theorem dX10_init_289 : decode cX10_init 289 = .ok (.aload_n 0, 1) := by decide +kernel
theorem dX10_init_290 : decode cX10_init 290 = .ok (.bipush 41, 2) := by decide +kernel
theorem dX10_init_292 : decode cX10_init 292 = .ok (.ldc2_w 119, 3) := by decide +kernel
theorem dX10_init_295 : decode cX10_init 295 = .ok (.invokevirtual 82, 3) := by decide +kernel
theorem dX10_init_298 : decode cX10_init 298 = .ok (.aload_n 0, 1) := by decide +kernel
theorem dX10_init_299 : decode cX10_init 299 = .ok (.bipush 41, 2) := by decide +kernel
theorem dX10_init_301 : decode cX10_init 301 = .ok (.bipush 41, 2) := by decide +kernel
theorem dX10_init_303 : decode cX10_init 303 = .ok (.invokevirtual 103, 3) := by decide +kernel
theorem dX10_init_306 : decode cX10_init 306 = .ok (.aload_n 0, 1) := by decide +kernel
theorem dX10_init_307 : decode cX10_init 307 = .ok (.bipush 42, 2) := by decide +kernel
theorem dX10_init_309 : decode cX10_init 309 = .ok (.bipush 26, 2) := by decide +kernel
theorem dX10_init_311 : decode cX10_init 311 = .ok (.bipush 41, 2) := by decide +kernel
theorem dX10_init_313 : decode cX10_init 313 = .ok (.invokevirtual 107, 3) := by decide +kernel
theorem dX10_init_316 : decode cX10_init 316 = .ok (.aload_n 0, 1) := by decide +kernel
theorem dX10_init_317 : decode cX10_init 317 = .ok (.bipush 24, 2) := by decide +kernel
theorem dX10_init_319 : decode cX10_init 319 = .ok (.bipush 42, 2) := by decide +kernel
theorem dX10_init_321 : decode cX10_init 321 = .ok (.invokevirtual 121, 3) := by decide +kernel
theorem dX10_init_324 : decode cX10_init 324 = .ok (.aload_n 0, 1) := by decide +kernel
theorem dX10_init_325 : decode cX10_init 325 = .ok (.iconst 5, 1) := by decide +kernel
theorem dX10_init_326 : decode cX10_init 326 = .ok (.bipush 24, 2) := by decide +kernel
theorem dX10_init_328 : decode cX10_init 328 = .ok (.invokevirtual 124, 3) := by decide +kernel
theorem dX10_init_331 : decode cX10_init 331 = .ok (.ifCond .ne 8, 3) := by decide +kernel
theorem dX10_init_334 : decode cX10_init 334 = .ok (.aload_n 0, 1) := by decide +kernel
theorem dX10_init_335 : decode cX10_init 335 = .ok (.iconst 0, 1) := by decide +kernel
theorem dX10_init_336 : decode cX10_init 336 = .ok (.putfield 17, 3) := by decide +kernel
theorem dX10_init_339 : decode cX10_init 339 = .ok (.aload_n 0, 1) := by decide +kernel
theorem dX10_init_340 : decode cX10_init 340 = .ok (.invokevirtual 128, 3) := by decide +kernel
theorem dX10_init_343 : decode cX10_init 343 = .ok (.return_, 1) := by decide +kernel
theorem dX10_in_0 : decode cX10_in 0 = .ok (.iload_n 0, 1) := by decide +kernel
theorem dX10_in_1 : decode cX10_in 1 = .ok (.iload_n 1, 1) := by decide +kernel
theorem dX10_in_2 : decode cX10_in 2 = .ok (.if_icmp .lt 12, 3) := by decide +kernel
theorem dX10_in_5 : decode cX10_in 5 = .ok (.iload_n 0, 1) := by decide +kernel
theorem dX10_in_6 : decode cX10_in 6 = .ok (.iload_n 2, 1) := by decide +kernel
theorem dX10_in_7 : decode cX10_in 7 = .ok (.if_icmp .gt 7, 3) := by decide +kernel
theorem dX10_in_10 : decode cX10_in 10 = .ok (.iconst 1, 1) := by decide +kernel
theorem dX10_in_11 : decode cX10_in 11 = .ok (.goto 4, 3) := by decide +kernel
theorem dX10_in_14 : decode cX10_in 14 = .ok (.iconst 0, 1) := by decide +kernel
theorem dX10_in_15 : decode cX10_in 15 = .ok (.ireturn, 1) := by decide +kernel
theorem dX10_isSlot_0 : decode cX10_isSlot 0 = .ok (.iload_n 0, 1) := by decide +kernel
theorem dX10_isSlot_1 : decode cX10_isSlot 1 = .ok (.iconst 0, 1) := by decide +kernel
theorem dX10_isSlot_2 : decode cX10_isSlot 2 = .ok (.bipush 23, 2) := by decide +kernel
theorem dX10_isSlot_4 : decode cX10_isSlot 4 = .ok (.invokestatic 131, 3) := by decide +kernel
theorem dX10_isSlot_7 : decode cX10_isSlot 7 = .ok (.ireturn, 1) := by decide +kernel
theorem dX10_words_0 : decode cX10_words 0 = .ok (.aload_n 0, 1) := by decide +kernel
theorem dX10_words_1 : decode cX10_words 1 = .ok (.getfield 27, 3) := by decide +kernel
theorem dX10_words_4 : decode cX10_words 4 = .ok (.iload_n 1, 1) := by decide +kernel
theorem dX10_words_5 : decode cX10_words 5 = .ok (.lload_n 2, 1) := by decide +kernel
theorem dX10_words_6 : decode cX10_words 6 = .ok (.lastore, 1) := by decide +kernel
theorem dX10_words_7 : decode cX10_words 7 = .ok (.aload_n 0, 1) := by decide +kernel
theorem dX10_words_8 : decode cX10_words 8 = .ok (.getfield 27, 3) := by decide +kernel
theorem dX10_words_11 : decode cX10_words 11 = .ok (.iload_n 1, 1) := by decide +kernel
theorem dX10_words_12 : decode cX10_words 12 = .ok (.iconst 1, 1) := by decide +kernel
theorem dX10_words_13 : decode cX10_words 13 = .ok (.iadd, 1) := by decide +kernel
theorem dX10_words_14 : decode cX10_words 14 = .ok (.lload 4, 2) := by decide +kernel
theorem dX10_words_16 : decode cX10_words 16 = .ok (.lastore, 1) := by decide +kernel
theorem dX10_words_17 : decode cX10_words 17 = .ok (.aload_n 0, 1) := by decide +kernel
theorem dX10_words_18 : decode cX10_words 18 = .ok (.getfield 27, 3) := by decide +kernel
theorem dX10_words_21 : decode cX10_words 21 = .ok (.iload_n 1, 1) := by decide +kernel
theorem dX10_words_22 : decode cX10_words 22 = .ok (.iconst 2, 1) := by decide +kernel
theorem dX10_words_23 : decode cX10_words 23 = .ok (.iadd, 1) := by decide +kernel
theorem dX10_words_24 : decode cX10_words 24 = .ok (.lload 6, 2) := by decide +kernel
theorem dX10_words_26 : decode cX10_words 26 = .ok (.lastore, 1) := by decide +kernel
theorem dX10_words_27 : decode cX10_words 27 = .ok (.aload_n 0, 1) := by decide +kernel
theorem dX10_words_28 : decode cX10_words 28 = .ok (.getfield 27, 3) := by decide +kernel
theorem dX10_words_31 : decode cX10_words 31 = .ok (.iload_n 1, 1) := by decide +kernel
theorem dX10_words_32 : decode cX10_words 32 = .ok (.iconst 3, 1) := by decide +kernel
theorem dX10_words_33 : decode cX10_words 33 = .ok (.iadd, 1) := by decide +kernel
theorem dX10_words_34 : decode cX10_words 34 = .ok (.lload 8, 2) := by decide +kernel
theorem dX10_words_36 : decode cX10_words 36 = .ok (.lastore, 1) := by decide +kernel
theorem dX10_words_37 : decode cX10_words 37 = .ok (.return_, 1) := by decide +kernel
theorem dX10_fromSlot_0 : decode cX10_fromSlot 0 = .ok (.aload_n 0, 1) := by decide +kernel
theorem dX10_fromSlot_1 : decode cX10_fromSlot 1 = .ok (.iload_n 1, 1) := by decide +kernel
theorem dX10_fromSlot_2 : decode cX10_fromSlot 2 = .ok (.aload_n 0, 1) := by decide +kernel
theorem dX10_fromSlot_3 : decode cX10_fromSlot 3 = .ok (.getfield 7, 3) := by decide +kernel
theorem dX10_fromSlot_6 : decode cX10_fromSlot 6 = .ok (.iconst 4, 1) := by decide +kernel
theorem dX10_fromSlot_7 : decode cX10_fromSlot 7 = .ok (.iload_n 2, 1) := by decide +kernel
theorem dX10_fromSlot_8 : decode cX10_fromSlot 8 = .ok (.imul, 1) := by decide +kernel
theorem dX10_fromSlot_9 : decode cX10_fromSlot 9 = .ok (.laload, 1) := by decide +kernel
theorem dX10_fromSlot_10 : decode cX10_fromSlot 10 = .ok (.aload_n 0, 1) := by decide +kernel
theorem dX10_fromSlot_11 : decode cX10_fromSlot 11 = .ok (.getfield 7, 3) := by decide +kernel
theorem dX10_fromSlot_14 : decode cX10_fromSlot 14 = .ok (.iconst 4, 1) := by decide +kernel
theorem dX10_fromSlot_15 : decode cX10_fromSlot 15 = .ok (.iload_n 2, 1) := by decide +kernel
theorem dX10_fromSlot_16 : decode cX10_fromSlot 16 = .ok (.imul, 1) := by decide +kernel
theorem dX10_fromSlot_17 : decode cX10_fromSlot 17 = .ok (.iconst 1, 1) := by decide +kernel
theorem dX10_fromSlot_18 : decode cX10_fromSlot 18 = .ok (.iadd, 1) := by decide +kernel
theorem dX10_fromSlot_19 : decode cX10_fromSlot 19 = .ok (.laload, 1) := by decide +kernel
theorem dX10_fromSlot_20 : decode cX10_fromSlot 20 = .ok (.aload_n 0, 1) := by decide +kernel
theorem dX10_fromSlot_21 : decode cX10_fromSlot 21 = .ok (.getfield 7, 3) := by decide +kernel
theorem dX10_fromSlot_24 : decode cX10_fromSlot 24 = .ok (.iconst 4, 1) := by decide +kernel
theorem dX10_fromSlot_25 : decode cX10_fromSlot 25 = .ok (.iload_n 2, 1) := by decide +kernel
theorem dX10_fromSlot_26 : decode cX10_fromSlot 26 = .ok (.imul, 1) := by decide +kernel
theorem dX10_fromSlot_27 : decode cX10_fromSlot 27 = .ok (.iconst 2, 1) := by decide +kernel
theorem dX10_fromSlot_28 : decode cX10_fromSlot 28 = .ok (.iadd, 1) := by decide +kernel
theorem dX10_fromSlot_29 : decode cX10_fromSlot 29 = .ok (.laload, 1) := by decide +kernel
theorem dX10_fromSlot_30 : decode cX10_fromSlot 30 = .ok (.aload_n 0, 1) := by decide +kernel
theorem dX10_fromSlot_31 : decode cX10_fromSlot 31 = .ok (.getfield 7, 3) := by decide +kernel
theorem dX10_fromSlot_34 : decode cX10_fromSlot 34 = .ok (.iconst 4, 1) := by decide +kernel
theorem dX10_fromSlot_35 : decode cX10_fromSlot 35 = .ok (.iload_n 2, 1) := by decide +kernel
theorem dX10_fromSlot_36 : decode cX10_fromSlot 36 = .ok (.imul, 1) := by decide +kernel
theorem dX10_fromSlot_37 : decode cX10_fromSlot 37 = .ok (.iconst 3, 1) := by decide +kernel
theorem dX10_fromSlot_38 : decode cX10_fromSlot 38 = .ok (.iadd, 1) := by decide +kernel
theorem dX10_fromSlot_39 : decode cX10_fromSlot 39 = .ok (.laload, 1) := by decide +kernel
theorem dX10_fromSlot_40 : decode cX10_fromSlot 40 = .ok (.invokevirtual 72, 3) := by decide +kernel
theorem dX10_fromSlot_43 : decode cX10_fromSlot 43 = .ok (.return_, 1) := by decide +kernel
theorem dX10_toSlot_0 : decode cX10_toSlot 0 = .ok (.iconst 0, 1) := by decide +kernel
theorem dX10_toSlot_1 : decode cX10_toSlot 1 = .ok (.istore_n 3, 1) := by decide +kernel
theorem dX10_toSlot_2 : decode cX10_toSlot 2 = .ok (.iload_n 3, 1) := by decide +kernel
theorem dX10_toSlot_3 : decode cX10_toSlot 3 = .ok (.iconst 4, 1) := by decide +kernel
theorem dX10_toSlot_4 : decode cX10_toSlot 4 = .ok (.if_icmp .ge 27, 3) := by decide +kernel
theorem dX10_toSlot_7 : decode cX10_toSlot 7 = .ok (.aload_n 0, 1) := by decide +kernel
theorem dX10_toSlot_8 : decode cX10_toSlot 8 = .ok (.getfield 7, 3) := by decide +kernel
theorem dX10_toSlot_11 : decode cX10_toSlot 11 = .ok (.iconst 4, 1) := by decide +kernel
theorem dX10_toSlot_12 : decode cX10_toSlot 12 = .ok (.iload_n 1, 1) := by decide +kernel
theorem dX10_toSlot_13 : decode cX10_toSlot 13 = .ok (.imul, 1) := by decide +kernel
theorem dX10_toSlot_14 : decode cX10_toSlot 14 = .ok (.iload_n 3, 1) := by decide +kernel
theorem dX10_toSlot_15 : decode cX10_toSlot 15 = .ok (.iadd, 1) := by decide +kernel
theorem dX10_toSlot_16 : decode cX10_toSlot 16 = .ok (.aload_n 0, 1) := by decide +kernel
theorem dX10_toSlot_17 : decode cX10_toSlot 17 = .ok (.getfield 27, 3) := by decide +kernel
theorem dX10_toSlot_20 : decode cX10_toSlot 20 = .ok (.iload_n 2, 1) := by decide +kernel
theorem dX10_toSlot_21 : decode cX10_toSlot 21 = .ok (.iload_n 3, 1) := by decide +kernel
theorem dX10_toSlot_22 : decode cX10_toSlot 22 = .ok (.iadd, 1) := by decide +kernel
theorem dX10_toSlot_23 : decode cX10_toSlot 23 = .ok (.laload, 1) := by decide +kernel
theorem dX10_toSlot_24 : decode cX10_toSlot 24 = .ok (.lastore, 1) := by decide +kernel
theorem dX10_toSlot_25 : decode cX10_toSlot 25 = .ok (.iinc 3 1, 3) := by decide +kernel
theorem dX10_toSlot_28 : decode cX10_toSlot 28 = .ok (.goto (-26), 3) := by decide +kernel
theorem dX10_toSlot_31 : decode cX10_toSlot 31 = .ok (.return_, 1) := by decide +kernel
theorem dX10_bit_0 : decode cX10_bit 0 = .ok (.aload_n 0, 1) := by decide +kernel
theorem dX10_bit_1 : decode cX10_bit 1 = .ok (.getfield 27, 3) := by decide +kernel
theorem dX10_bit_4 : decode cX10_bit 4 = .ok (.iload_n 1, 1) := by decide +kernel
theorem dX10_bit_5 : decode cX10_bit 5 = .ok (.iload_n 2, 1) := by decide +kernel
theorem dX10_bit_6 : decode cX10_bit 6 = .ok (.bipush 6, 2) := by decide +kernel
theorem dX10_bit_8 : decode cX10_bit 8 = .ok (.ishr, 1) := by decide +kernel
theorem dX10_bit_9 : decode cX10_bit 9 = .ok (.iadd, 1) := by decide +kernel
theorem dX10_bit_10 : decode cX10_bit 10 = .ok (.laload, 1) := by decide +kernel
theorem dX10_bit_11 : decode cX10_bit 11 = .ok (.iload_n 2, 1) := by decide +kernel
theorem dX10_bit_12 : decode cX10_bit 12 = .ok (.bipush 63, 2) := by decide +kernel
theorem dX10_bit_14 : decode cX10_bit 14 = .ok (.iand, 1) := by decide +kernel
theorem dX10_bit_15 : decode cX10_bit 15 = .ok (.lushr, 1) := by decide +kernel
theorem dX10_bit_16 : decode cX10_bit 16 = .ok (.l2i, 1) := by decide +kernel
theorem dX10_bit_17 : decode cX10_bit 17 = .ok (.iconst 1, 1) := by decide +kernel
theorem dX10_bit_18 : decode cX10_bit 18 = .ok (.iand, 1) := by decide +kernel
theorem dX10_bit_19 : decode cX10_bit 19 = .ok (.ireturn, 1) := by decide +kernel
theorem dX10_isBelow_0 : decode cX10_isBelow 0 = .ok (.lload_n 0, 1) := by decide +kernel
theorem dX10_isBelow_1 : decode cX10_isBelow 1 = .ok (.ldc2_w 135, 3) := by decide +kernel
theorem dX10_isBelow_4 : decode cX10_isBelow 4 = .ok (.lxor, 1) := by decide +kernel
theorem dX10_isBelow_5 : decode cX10_isBelow 5 = .ok (.lload_n 2, 1) := by decide +kernel
theorem dX10_isBelow_6 : decode cX10_isBelow 6 = .ok (.ldc2_w 135, 3) := by decide +kernel
theorem dX10_isBelow_9 : decode cX10_isBelow 9 = .ok (.lxor, 1) := by decide +kernel
theorem dX10_isBelow_10 : decode cX10_isBelow 10 = .ok (.lcmp, 1) := by decide +kernel
theorem dX10_isBelow_11 : decode cX10_isBelow 11 = .ok (.ifCond .ge 7, 3) := by decide +kernel
theorem dX10_isBelow_14 : decode cX10_isBelow 14 = .ok (.iconst 1, 1) := by decide +kernel
theorem dX10_isBelow_15 : decode cX10_isBelow 15 = .ok (.goto 4, 3) := by decide +kernel
theorem dX10_isBelow_18 : decode cX10_isBelow 18 = .ok (.iconst 0, 1) := by decide +kernel
theorem dX10_isBelow_19 : decode cX10_isBelow 19 = .ok (.ireturn, 1) := by decide +kernel
theorem dX10_against_0 : decode cX10_against 0 = .ok (.iconst 3, 1) := by decide +kernel
theorem dX10_against_1 : decode cX10_against 1 = .ok (.istore_n 3, 1) := by decide +kernel
theorem dX10_against_2 : decode cX10_against 2 = .ok (.iload_n 3, 1) := by decide +kernel
theorem dX10_against_3 : decode cX10_against 3 = .ok (.ifCond .lt 57, 3) := by decide +kernel
theorem dX10_against_6 : decode cX10_against 6 = .ok (.aload_n 0, 1) := by decide +kernel
theorem dX10_against_7 : decode cX10_against 7 = .ok (.getfield 27, 3) := by decide +kernel
theorem dX10_against_10 : decode cX10_against 10 = .ok (.iload_n 1, 1) := by decide +kernel
theorem dX10_against_11 : decode cX10_against 11 = .ok (.iload_n 3, 1) := by decide +kernel
theorem dX10_against_12 : decode cX10_against 12 = .ok (.iadd, 1) := by decide +kernel
theorem dX10_against_13 : decode cX10_against 13 = .ok (.laload, 1) := by decide +kernel
theorem dX10_against_14 : decode cX10_against 14 = .ok (.aload_n 0, 1) := by decide +kernel
theorem dX10_against_15 : decode cX10_against 15 = .ok (.getfield 27, 3) := by decide +kernel
theorem dX10_against_18 : decode cX10_against 18 = .ok (.iload_n 2, 1) := by decide +kernel
theorem dX10_against_19 : decode cX10_against 19 = .ok (.iload_n 3, 1) := by decide +kernel
theorem dX10_against_20 : decode cX10_against 20 = .ok (.iadd, 1) := by decide +kernel
theorem dX10_against_21 : decode cX10_against 21 = .ok (.laload, 1) := by decide +kernel
theorem dX10_against_22 : decode cX10_against 22 = .ok (.lcmp, 1) := by decide +kernel
theorem dX10_against_23 : decode cX10_against 23 = .ok (.ifCond .eq 31, 3) := by decide +kernel
theorem dX10_against_26 : decode cX10_against 26 = .ok (.aload_n 0, 1) := by decide +kernel
theorem dX10_against_27 : decode cX10_against 27 = .ok (.getfield 27, 3) := by decide +kernel
theorem dX10_against_30 : decode cX10_against 30 = .ok (.iload_n 1, 1) := by decide +kernel
theorem dX10_against_31 : decode cX10_against 31 = .ok (.iload_n 3, 1) := by decide +kernel
theorem dX10_against_32 : decode cX10_against 32 = .ok (.iadd, 1) := by decide +kernel
theorem dX10_against_33 : decode cX10_against 33 = .ok (.laload, 1) := by decide +kernel
theorem dX10_against_34 : decode cX10_against 34 = .ok (.aload_n 0, 1) := by decide +kernel
theorem dX10_against_35 : decode cX10_against 35 = .ok (.getfield 27, 3) := by decide +kernel
theorem dX10_against_38 : decode cX10_against 38 = .ok (.iload_n 2, 1) := by decide +kernel
theorem dX10_against_39 : decode cX10_against 39 = .ok (.iload_n 3, 1) := by decide +kernel
theorem dX10_against_40 : decode cX10_against 40 = .ok (.iadd, 1) := by decide +kernel
theorem dX10_against_41 : decode cX10_against 41 = .ok (.laload, 1) := by decide +kernel
theorem dX10_against_42 : decode cX10_against 42 = .ok (.invokestatic 137, 3) := by decide +kernel
theorem dX10_against_45 : decode cX10_against 45 = .ok (.ifCond .eq 7, 3) := by decide +kernel
theorem dX10_against_48 : decode cX10_against 48 = .ok (.iconst (-1), 1) := by decide +kernel
theorem dX10_against_49 : decode cX10_against 49 = .ok (.goto 4, 3) := by decide +kernel
theorem dX10_against_52 : decode cX10_against 52 = .ok (.iconst 1, 1) := by decide +kernel
theorem dX10_against_53 : decode cX10_against 53 = .ok (.ireturn, 1) := by decide +kernel
theorem dX10_against_54 : decode cX10_against 54 = .ok (.iinc 3 (-1), 3) := by decide +kernel
theorem dX10_against_57 : decode cX10_against 57 = .ok (.goto (-55), 3) := by decide +kernel
theorem dX10_against_60 : decode cX10_against 60 = .ok (.iconst 0, 1) := by decide +kernel
theorem dX10_against_61 : decode cX10_against 61 = .ok (.ireturn, 1) := by decide +kernel
theorem dX10_put_0 : decode cX10_put 0 = .ok (.iconst 0, 1) := by decide +kernel
theorem dX10_put_1 : decode cX10_put 1 = .ok (.istore 4, 2) := by decide +kernel
theorem dX10_put_3 : decode cX10_put 3 = .ok (.iload 4, 2) := by decide +kernel
theorem dX10_put_5 : decode cX10_put 5 = .ok (.bipush 16, 2) := by decide +kernel
theorem dX10_put_7 : decode cX10_put 7 = .ok (.if_icmp .ge 22, 3) := by decide +kernel
theorem dX10_put_10 : decode cX10_put 10 = .ok (.aload_n 0, 1) := by decide +kernel
theorem dX10_put_11 : decode cX10_put 11 = .ok (.getfield 21, 3) := by decide +kernel
theorem dX10_put_14 : decode cX10_put 14 = .ok (.bipush 16, 2) := by decide +kernel
theorem dX10_put_16 : decode cX10_put 16 = .ok (.iload_n 1, 1) := by decide +kernel
theorem dX10_put_17 : decode cX10_put 17 = .ok (.imul, 1) := by decide +kernel
theorem dX10_put_18 : decode cX10_put 18 = .ok (.iload 4, 2) := by decide +kernel
theorem dX10_put_20 : decode cX10_put 20 = .ok (.iadd, 1) := by decide +kernel
theorem dX10_put_21 : decode cX10_put 21 = .ok (.lconst 0, 1) := by decide +kernel
theorem dX10_put_22 : decode cX10_put 22 = .ok (.lastore, 1) := by decide +kernel
theorem dX10_put_23 : decode cX10_put 23 = .ok (.iinc 4 1, 3) := by decide +kernel
theorem dX10_put_26 : decode cX10_put 26 = .ok (.goto (-23), 3) := by decide +kernel
theorem dX10_put_29 : decode cX10_put 29 = .ok (.aload_n 0, 1) := by decide +kernel
theorem dX10_put_30 : decode cX10_put 30 = .ok (.getfield 21, 3) := by decide +kernel
theorem dX10_put_33 : decode cX10_put 33 = .ok (.bipush 16, 2) := by decide +kernel
theorem dX10_put_35 : decode cX10_put 35 = .ok (.iload_n 1, 1) := by decide +kernel
theorem dX10_put_36 : decode cX10_put 36 = .ok (.imul, 1) := by decide +kernel
theorem dX10_put_37 : decode cX10_put 37 = .ok (.lload_n 2, 1) := by decide +kernel
theorem dX10_put_38 : decode cX10_put 38 = .ok (.ldc2_w 141, 3) := by decide +kernel
theorem dX10_put_41 : decode cX10_put 41 = .ok (.land, 1) := by decide +kernel
theorem dX10_put_42 : decode cX10_put 42 = .ok (.lastore, 1) := by decide +kernel
theorem dX10_put_43 : decode cX10_put 43 = .ok (.aload_n 0, 1) := by decide +kernel
theorem dX10_put_44 : decode cX10_put 44 = .ok (.getfield 21, 3) := by decide +kernel
theorem dX10_put_47 : decode cX10_put 47 = .ok (.bipush 16, 2) := by decide +kernel
theorem dX10_put_49 : decode cX10_put 49 = .ok (.iload_n 1, 1) := by decide +kernel
theorem dX10_put_50 : decode cX10_put 50 = .ok (.imul, 1) := by decide +kernel
theorem dX10_put_51 : decode cX10_put 51 = .ok (.iconst 1, 1) := by decide +kernel
theorem dX10_put_52 : decode cX10_put 52 = .ok (.iadd, 1) := by decide +kernel
theorem dX10_put_53 : decode cX10_put 53 = .ok (.lload_n 2, 1) := by decide +kernel
theorem dX10_put_54 : decode cX10_put 54 = .ok (.bipush 16, 2) := by decide +kernel
theorem dX10_put_56 : decode cX10_put 56 = .ok (.lshr, 1) := by decide +kernel
theorem dX10_put_57 : decode cX10_put 57 = .ok (.lastore, 1) := by decide +kernel
theorem dX10_put_58 : decode cX10_put 58 = .ok (.return_, 1) := by decide +kernel
theorem dX10_copyOf_0 : decode cX10_copyOf 0 = .ok (.iconst 0, 1) := by decide +kernel
theorem dX10_copyOf_1 : decode cX10_copyOf 1 = .ok (.istore_n 3, 1) := by decide +kernel
theorem dX10_copyOf_2 : decode cX10_copyOf 2 = .ok (.iload_n 3, 1) := by decide +kernel
theorem dX10_copyOf_3 : decode cX10_copyOf 3 = .ok (.bipush 16, 2) := by decide +kernel
theorem dX10_copyOf_5 : decode cX10_copyOf 5 = .ok (.if_icmp .ge 31, 3) := by decide +kernel
theorem dX10_copyOf_8 : decode cX10_copyOf 8 = .ok (.aload_n 0, 1) := by decide +kernel
theorem dX10_copyOf_9 : decode cX10_copyOf 9 = .ok (.getfield 21, 3) := by decide +kernel
theorem dX10_copyOf_12 : decode cX10_copyOf 12 = .ok (.bipush 16, 2) := by decide +kernel
theorem dX10_copyOf_14 : decode cX10_copyOf 14 = .ok (.iload_n 1, 1) := by decide +kernel
theorem dX10_copyOf_15 : decode cX10_copyOf 15 = .ok (.imul, 1) := by decide +kernel
theorem dX10_copyOf_16 : decode cX10_copyOf 16 = .ok (.iload_n 3, 1) := by decide +kernel
theorem dX10_copyOf_17 : decode cX10_copyOf 17 = .ok (.iadd, 1) := by decide +kernel
theorem dX10_copyOf_18 : decode cX10_copyOf 18 = .ok (.aload_n 0, 1) := by decide +kernel
theorem dX10_copyOf_19 : decode cX10_copyOf 19 = .ok (.getfield 21, 3) := by decide +kernel
theorem dX10_copyOf_22 : decode cX10_copyOf 22 = .ok (.bipush 16, 2) := by decide +kernel
theorem dX10_copyOf_24 : decode cX10_copyOf 24 = .ok (.iload_n 2, 1) := by decide +kernel
theorem dX10_copyOf_25 : decode cX10_copyOf 25 = .ok (.imul, 1) := by decide +kernel
theorem dX10_copyOf_26 : decode cX10_copyOf 26 = .ok (.iload_n 3, 1) := by decide +kernel
theorem dX10_copyOf_27 : decode cX10_copyOf 27 = .ok (.iadd, 1) := by decide +kernel
theorem dX10_copyOf_28 : decode cX10_copyOf 28 = .ok (.laload, 1) := by decide +kernel
theorem dX10_copyOf_29 : decode cX10_copyOf 29 = .ok (.lastore, 1) := by decide +kernel
theorem dX10_copyOf_30 : decode cX10_copyOf 30 = .ok (.iinc 3 1, 3) := by decide +kernel
theorem dX10_copyOf_33 : decode cX10_copyOf 33 = .ok (.goto (-31), 3) := by decide +kernel
theorem dX10_copyOf_36 : decode cX10_copyOf 36 = .ok (.return_, 1) := by decide +kernel
theorem dX10_reduce_0 : decode cX10_reduce 0 = .ok (.iconst 0, 1) := by decide +kernel
theorem dX10_reduce_1 : decode cX10_reduce 1 = .ok (.istore_n 2, 1) := by decide +kernel
theorem dX10_reduce_2 : decode cX10_reduce 2 = .ok (.iload_n 2, 1) := by decide +kernel
theorem dX10_reduce_3 : decode cX10_reduce 3 = .ok (.bipush 16, 2) := by decide +kernel
theorem dX10_reduce_5 : decode cX10_reduce 5 = .ok (.if_icmp .ge 85, 3) := by decide +kernel
theorem dX10_reduce_8 : decode cX10_reduce 8 = .ok (.aload_n 0, 1) := by decide +kernel
theorem dX10_reduce_9 : decode cX10_reduce 9 = .ok (.getfield 21, 3) := by decide +kernel
theorem dX10_reduce_12 : decode cX10_reduce 12 = .ok (.bipush 16, 2) := by decide +kernel
theorem dX10_reduce_14 : decode cX10_reduce 14 = .ok (.iload_n 1, 1) := by decide +kernel
theorem dX10_reduce_15 : decode cX10_reduce 15 = .ok (.imul, 1) := by decide +kernel
theorem dX10_reduce_16 : decode cX10_reduce 16 = .ok (.iload_n 2, 1) := by decide +kernel
theorem dX10_reduce_17 : decode cX10_reduce 17 = .ok (.iadd, 1) := by decide +kernel
theorem dX10_reduce_18 : decode cX10_reduce 18 = .ok (.laload, 1) := by decide +kernel
theorem dX10_reduce_19 : decode cX10_reduce 19 = .ok (.bipush 16, 2) := by decide +kernel
theorem dX10_reduce_21 : decode cX10_reduce 21 = .ok (.lshr, 1) := by decide +kernel
theorem dX10_reduce_22 : decode cX10_reduce 22 = .ok (.lstore_n 3, 1) := by decide +kernel
theorem dX10_reduce_23 : decode cX10_reduce 23 = .ok (.aload_n 0, 1) := by decide +kernel
theorem dX10_reduce_24 : decode cX10_reduce 24 = .ok (.getfield 21, 3) := by decide +kernel
theorem dX10_reduce_27 : decode cX10_reduce 27 = .ok (.bipush 16, 2) := by decide +kernel
theorem dX10_reduce_29 : decode cX10_reduce 29 = .ok (.iload_n 1, 1) := by decide +kernel
theorem dX10_reduce_30 : decode cX10_reduce 30 = .ok (.imul, 1) := by decide +kernel
theorem dX10_reduce_31 : decode cX10_reduce 31 = .ok (.iload_n 2, 1) := by decide +kernel
theorem dX10_reduce_32 : decode cX10_reduce 32 = .ok (.iadd, 1) := by decide +kernel
theorem dX10_reduce_33 : decode cX10_reduce 33 = .ok (.dup2, 1) := by decide +kernel
theorem dX10_reduce_34 : decode cX10_reduce 34 = .ok (.laload, 1) := by decide +kernel
theorem dX10_reduce_35 : decode cX10_reduce 35 = .ok (.lload_n 3, 1) := by decide +kernel
theorem dX10_reduce_36 : decode cX10_reduce 36 = .ok (.bipush 16, 2) := by decide +kernel
theorem dX10_reduce_38 : decode cX10_reduce 38 = .ok (.lshl, 1) := by decide +kernel
theorem dX10_reduce_39 : decode cX10_reduce 39 = .ok (.lsub, 1) := by decide +kernel
theorem dX10_reduce_40 : decode cX10_reduce 40 = .ok (.lastore, 1) := by decide +kernel
theorem dX10_reduce_41 : decode cX10_reduce 41 = .ok (.iload_n 2, 1) := by decide +kernel
theorem dX10_reduce_42 : decode cX10_reduce 42 = .ok (.bipush 15, 2) := by decide +kernel
theorem dX10_reduce_44 : decode cX10_reduce 44 = .ok (.if_icmp .ge 23, 3) := by decide +kernel
theorem dX10_reduce_47 : decode cX10_reduce 47 = .ok (.aload_n 0, 1) := by decide +kernel
theorem dX10_reduce_48 : decode cX10_reduce 48 = .ok (.getfield 21, 3) := by decide +kernel
theorem dX10_reduce_51 : decode cX10_reduce 51 = .ok (.bipush 16, 2) := by decide +kernel
theorem dX10_reduce_53 : decode cX10_reduce 53 = .ok (.iload_n 1, 1) := by decide +kernel
theorem dX10_reduce_54 : decode cX10_reduce 54 = .ok (.imul, 1) := by decide +kernel
theorem dX10_reduce_55 : decode cX10_reduce 55 = .ok (.iload_n 2, 1) := by decide +kernel
theorem dX10_reduce_56 : decode cX10_reduce 56 = .ok (.iadd, 1) := by decide +kernel
theorem dX10_reduce_57 : decode cX10_reduce 57 = .ok (.iconst 1, 1) := by decide +kernel
theorem dX10_reduce_58 : decode cX10_reduce 58 = .ok (.iadd, 1) := by decide +kernel
theorem dX10_reduce_59 : decode cX10_reduce 59 = .ok (.dup2, 1) := by decide +kernel
theorem dX10_reduce_60 : decode cX10_reduce 60 = .ok (.laload, 1) := by decide +kernel
theorem dX10_reduce_61 : decode cX10_reduce 61 = .ok (.lload_n 3, 1) := by decide +kernel
theorem dX10_reduce_62 : decode cX10_reduce 62 = .ok (.ladd, 1) := by decide +kernel
theorem dX10_reduce_63 : decode cX10_reduce 63 = .ok (.lastore, 1) := by decide +kernel
theorem dX10_reduce_64 : decode cX10_reduce 64 = .ok (.goto 20, 3) := by decide +kernel
theorem dX10_reduce_67 : decode cX10_reduce 67 = .ok (.aload_n 0, 1) := by decide +kernel
theorem dX10_reduce_68 : decode cX10_reduce 68 = .ok (.getfield 21, 3) := by decide +kernel
theorem dX10_reduce_71 : decode cX10_reduce 71 = .ok (.bipush 16, 2) := by decide +kernel
theorem dX10_reduce_73 : decode cX10_reduce 73 = .ok (.iload_n 1, 1) := by decide +kernel
theorem dX10_reduce_74 : decode cX10_reduce 74 = .ok (.imul, 1) := by decide +kernel
theorem dX10_reduce_75 : decode cX10_reduce 75 = .ok (.dup2, 1) := by decide +kernel
theorem dX10_reduce_76 : decode cX10_reduce 76 = .ok (.laload, 1) := by decide +kernel
theorem dX10_reduce_77 : decode cX10_reduce 77 = .ok (.ldc2_w 143, 3) := by decide +kernel
theorem dX10_reduce_80 : decode cX10_reduce 80 = .ok (.lload_n 3, 1) := by decide +kernel
theorem dX10_reduce_81 : decode cX10_reduce 81 = .ok (.lmul, 1) := by decide +kernel
theorem dX10_reduce_82 : decode cX10_reduce 82 = .ok (.ladd, 1) := by decide +kernel
theorem dX10_reduce_83 : decode cX10_reduce 83 = .ok (.lastore, 1) := by decide +kernel
theorem dX10_reduce_84 : decode cX10_reduce 84 = .ok (.iinc 2 1, 3) := by decide +kernel
theorem dX10_reduce_87 : decode cX10_reduce 87 = .ok (.goto (-85), 3) := by decide +kernel
theorem dX10_reduce_90 : decode cX10_reduce 90 = .ok (.return_, 1) := by decide +kernel
theorem dX10_add_0 : decode cX10_add 0 = .ok (.iconst 0, 1) := by decide +kernel
theorem dX10_add_1 : decode cX10_add 1 = .ok (.istore 4, 2) := by decide +kernel
theorem dX10_add_3 : decode cX10_add 3 = .ok (.iload 4, 2) := by decide +kernel
theorem dX10_add_5 : decode cX10_add 5 = .ok (.bipush 16, 2) := by decide +kernel
theorem dX10_add_7 : decode cX10_add 7 = .ok (.if_icmp .ge 46, 3) := by decide +kernel
theorem dX10_add_10 : decode cX10_add 10 = .ok (.aload_n 0, 1) := by decide +kernel
theorem dX10_add_11 : decode cX10_add 11 = .ok (.getfield 21, 3) := by decide +kernel
theorem dX10_add_14 : decode cX10_add 14 = .ok (.bipush 16, 2) := by decide +kernel
theorem dX10_add_16 : decode cX10_add 16 = .ok (.iload_n 1, 1) := by decide +kernel
theorem dX10_add_17 : decode cX10_add 17 = .ok (.imul, 1) := by decide +kernel
theorem dX10_add_18 : decode cX10_add 18 = .ok (.iload 4, 2) := by decide +kernel
theorem dX10_add_20 : decode cX10_add 20 = .ok (.iadd, 1) := by decide +kernel
theorem dX10_add_21 : decode cX10_add 21 = .ok (.aload_n 0, 1) := by decide +kernel
theorem dX10_add_22 : decode cX10_add 22 = .ok (.getfield 21, 3) := by decide +kernel
theorem dX10_add_25 : decode cX10_add 25 = .ok (.bipush 16, 2) := by decide +kernel
theorem dX10_add_27 : decode cX10_add 27 = .ok (.iload_n 2, 1) := by decide +kernel
theorem dX10_add_28 : decode cX10_add 28 = .ok (.imul, 1) := by decide +kernel
theorem dX10_add_29 : decode cX10_add 29 = .ok (.iload 4, 2) := by decide +kernel
theorem dX10_add_31 : decode cX10_add 31 = .ok (.iadd, 1) := by decide +kernel
theorem dX10_add_32 : decode cX10_add 32 = .ok (.laload, 1) := by decide +kernel
theorem dX10_add_33 : decode cX10_add 33 = .ok (.aload_n 0, 1) := by decide +kernel
theorem dX10_add_34 : decode cX10_add 34 = .ok (.getfield 21, 3) := by decide +kernel
theorem dX10_add_37 : decode cX10_add 37 = .ok (.bipush 16, 2) := by decide +kernel
theorem dX10_add_39 : decode cX10_add 39 = .ok (.iload_n 3, 1) := by decide +kernel
theorem dX10_add_40 : decode cX10_add 40 = .ok (.imul, 1) := by decide +kernel
theorem dX10_add_41 : decode cX10_add 41 = .ok (.iload 4, 2) := by decide +kernel
theorem dX10_add_43 : decode cX10_add 43 = .ok (.iadd, 1) := by decide +kernel
theorem dX10_add_44 : decode cX10_add 44 = .ok (.laload, 1) := by decide +kernel
theorem dX10_add_45 : decode cX10_add 45 = .ok (.ladd, 1) := by decide +kernel
theorem dX10_add_46 : decode cX10_add 46 = .ok (.lastore, 1) := by decide +kernel
theorem dX10_add_47 : decode cX10_add 47 = .ok (.iinc 4 1, 3) := by decide +kernel
theorem dX10_add_50 : decode cX10_add 50 = .ok (.goto (-47), 3) := by decide +kernel
theorem dX10_add_53 : decode cX10_add 53 = .ok (.return_, 1) := by decide +kernel
theorem dX10_subtract_0 : decode cX10_subtract 0 = .ok (.iconst 0, 1) := by decide +kernel
theorem dX10_subtract_1 : decode cX10_subtract 1 = .ok (.istore 4, 2) := by decide +kernel
theorem dX10_subtract_3 : decode cX10_subtract 3 = .ok (.iload 4, 2) := by decide +kernel
theorem dX10_subtract_5 : decode cX10_subtract 5 = .ok (.bipush 16, 2) := by decide +kernel
theorem dX10_subtract_7 : decode cX10_subtract 7 = .ok (.if_icmp .ge 46, 3) := by decide +kernel
theorem dX10_subtract_10 : decode cX10_subtract 10 = .ok (.aload_n 0, 1) := by decide +kernel
theorem dX10_subtract_11 : decode cX10_subtract 11 = .ok (.getfield 21, 3) := by decide +kernel
theorem dX10_subtract_14 : decode cX10_subtract 14 = .ok (.bipush 16, 2) := by decide +kernel
theorem dX10_subtract_16 : decode cX10_subtract 16 = .ok (.iload_n 1, 1) := by decide +kernel
theorem dX10_subtract_17 : decode cX10_subtract 17 = .ok (.imul, 1) := by decide +kernel
theorem dX10_subtract_18 : decode cX10_subtract 18 = .ok (.iload 4, 2) := by decide +kernel
theorem dX10_subtract_20 : decode cX10_subtract 20 = .ok (.iadd, 1) := by decide +kernel
theorem dX10_subtract_21 : decode cX10_subtract 21 = .ok (.aload_n 0, 1) := by decide +kernel
theorem dX10_subtract_22 : decode cX10_subtract 22 = .ok (.getfield 21, 3) := by decide +kernel
theorem dX10_subtract_25 : decode cX10_subtract 25 = .ok (.bipush 16, 2) := by decide +kernel
theorem dX10_subtract_27 : decode cX10_subtract 27 = .ok (.iload_n 2, 1) := by decide +kernel
theorem dX10_subtract_28 : decode cX10_subtract 28 = .ok (.imul, 1) := by decide +kernel
theorem dX10_subtract_29 : decode cX10_subtract 29 = .ok (.iload 4, 2) := by decide +kernel
theorem dX10_subtract_31 : decode cX10_subtract 31 = .ok (.iadd, 1) := by decide +kernel
theorem dX10_subtract_32 : decode cX10_subtract 32 = .ok (.laload, 1) := by decide +kernel
theorem dX10_subtract_33 : decode cX10_subtract 33 = .ok (.aload_n 0, 1) := by decide +kernel
theorem dX10_subtract_34 : decode cX10_subtract 34 = .ok (.getfield 21, 3) := by decide +kernel
theorem dX10_subtract_37 : decode cX10_subtract 37 = .ok (.bipush 16, 2) := by decide +kernel
theorem dX10_subtract_39 : decode cX10_subtract 39 = .ok (.iload_n 3, 1) := by decide +kernel
theorem dX10_subtract_40 : decode cX10_subtract 40 = .ok (.imul, 1) := by decide +kernel
theorem dX10_subtract_41 : decode cX10_subtract 41 = .ok (.iload 4, 2) := by decide +kernel
theorem dX10_subtract_43 : decode cX10_subtract 43 = .ok (.iadd, 1) := by decide +kernel
theorem dX10_subtract_44 : decode cX10_subtract 44 = .ok (.laload, 1) := by decide +kernel
theorem dX10_subtract_45 : decode cX10_subtract 45 = .ok (.lsub, 1) := by decide +kernel
theorem dX10_subtract_46 : decode cX10_subtract 46 = .ok (.lastore, 1) := by decide +kernel
theorem dX10_subtract_47 : decode cX10_subtract 47 = .ok (.iinc 4 1, 3) := by decide +kernel
theorem dX10_subtract_50 : decode cX10_subtract 50 = .ok (.goto (-47), 3) := by decide +kernel
theorem dX10_subtract_53 : decode cX10_subtract 53 = .ok (.return_, 1) := by decide +kernel
theorem dX10_multiply_0 : decode cX10_multiply 0 = .ok (.iconst 0, 1) := by decide +kernel
theorem dX10_multiply_1 : decode cX10_multiply 1 = .ok (.istore 4, 2) := by decide +kernel
theorem dX10_multiply_3 : decode cX10_multiply 3 = .ok (.iload 4, 2) := by decide +kernel
theorem dX10_multiply_5 : decode cX10_multiply 5 = .ok (.bipush 32, 2) := by decide +kernel
theorem dX10_multiply_7 : decode cX10_multiply 7 = .ok (.if_icmp .ge 17, 3) := by decide +kernel
theorem dX10_multiply_10 : decode cX10_multiply 10 = .ok (.aload_n 0, 1) := by decide +kernel
theorem dX10_multiply_11 : decode cX10_multiply 11 = .ok (.getfield 24, 3) := by decide +kernel
theorem dX10_multiply_14 : decode cX10_multiply 14 = .ok (.iload 4, 2) := by decide +kernel
theorem dX10_multiply_16 : decode cX10_multiply 16 = .ok (.lconst 0, 1) := by decide +kernel
theorem dX10_multiply_17 : decode cX10_multiply 17 = .ok (.lastore, 1) := by decide +kernel
theorem dX10_multiply_18 : decode cX10_multiply 18 = .ok (.iinc 4 1, 3) := by decide +kernel
theorem dX10_multiply_21 : decode cX10_multiply 21 = .ok (.goto (-18), 3) := by decide +kernel
theorem dX10_multiply_24 : decode cX10_multiply 24 = .ok (.iconst 0, 1) := by decide +kernel
theorem dX10_multiply_25 : decode cX10_multiply 25 = .ok (.istore 4, 2) := by decide +kernel
theorem dX10_multiply_27 : decode cX10_multiply 27 = .ok (.iload 4, 2) := by decide +kernel
theorem dX10_multiply_29 : decode cX10_multiply 29 = .ok (.bipush 16, 2) := by decide +kernel
theorem dX10_multiply_31 : decode cX10_multiply 31 = .ok (.if_icmp .ge 63, 3) := by decide +kernel
theorem dX10_multiply_34 : decode cX10_multiply 34 = .ok (.iconst 0, 1) := by decide +kernel
theorem dX10_multiply_35 : decode cX10_multiply 35 = .ok (.istore 5, 2) := by decide +kernel
theorem dX10_multiply_37 : decode cX10_multiply 37 = .ok (.iload 5, 2) := by decide +kernel
theorem dX10_multiply_39 : decode cX10_multiply 39 = .ok (.bipush 16, 2) := by decide +kernel
theorem dX10_multiply_41 : decode cX10_multiply 41 = .ok (.if_icmp .ge 47, 3) := by decide +kernel
theorem dX10_multiply_44 : decode cX10_multiply 44 = .ok (.aload_n 0, 1) := by decide +kernel
theorem dX10_multiply_45 : decode cX10_multiply 45 = .ok (.getfield 24, 3) := by decide +kernel
theorem dX10_multiply_48 : decode cX10_multiply 48 = .ok (.iload 4, 2) := by decide +kernel
theorem dX10_multiply_50 : decode cX10_multiply 50 = .ok (.iload 5, 2) := by decide +kernel
theorem dX10_multiply_52 : decode cX10_multiply 52 = .ok (.iadd, 1) := by decide +kernel
theorem dX10_multiply_53 : decode cX10_multiply 53 = .ok (.dup2, 1) := by decide +kernel
theorem dX10_multiply_54 : decode cX10_multiply 54 = .ok (.laload, 1) := by decide +kernel
theorem dX10_multiply_55 : decode cX10_multiply 55 = .ok (.aload_n 0, 1) := by decide +kernel
theorem dX10_multiply_56 : decode cX10_multiply 56 = .ok (.getfield 21, 3) := by decide +kernel
theorem dX10_multiply_59 : decode cX10_multiply 59 = .ok (.bipush 16, 2) := by decide +kernel
theorem dX10_multiply_61 : decode cX10_multiply 61 = .ok (.iload_n 2, 1) := by decide +kernel
theorem dX10_multiply_62 : decode cX10_multiply 62 = .ok (.imul, 1) := by decide +kernel
theorem dX10_multiply_63 : decode cX10_multiply 63 = .ok (.iload 4, 2) := by decide +kernel
theorem dX10_multiply_65 : decode cX10_multiply 65 = .ok (.iadd, 1) := by decide +kernel
theorem dX10_multiply_66 : decode cX10_multiply 66 = .ok (.laload, 1) := by decide +kernel
theorem dX10_multiply_67 : decode cX10_multiply 67 = .ok (.aload_n 0, 1) := by decide +kernel
theorem dX10_multiply_68 : decode cX10_multiply 68 = .ok (.getfield 21, 3) := by decide +kernel
theorem dX10_multiply_71 : decode cX10_multiply 71 = .ok (.bipush 16, 2) := by decide +kernel
theorem dX10_multiply_73 : decode cX10_multiply 73 = .ok (.iload_n 3, 1) := by decide +kernel
theorem dX10_multiply_74 : decode cX10_multiply 74 = .ok (.imul, 1) := by decide +kernel
theorem dX10_multiply_75 : decode cX10_multiply 75 = .ok (.iload 5, 2) := by decide +kernel
theorem dX10_multiply_77 : decode cX10_multiply 77 = .ok (.iadd, 1) := by decide +kernel
theorem dX10_multiply_78 : decode cX10_multiply 78 = .ok (.laload, 1) := by decide +kernel
theorem dX10_multiply_79 : decode cX10_multiply 79 = .ok (.lmul, 1) := by decide +kernel
theorem dX10_multiply_80 : decode cX10_multiply 80 = .ok (.ladd, 1) := by decide +kernel
theorem dX10_multiply_81 : decode cX10_multiply 81 = .ok (.lastore, 1) := by decide +kernel
theorem dX10_multiply_82 : decode cX10_multiply 82 = .ok (.iinc 5 1, 3) := by decide +kernel
theorem dX10_multiply_85 : decode cX10_multiply 85 = .ok (.goto (-48), 3) := by decide +kernel
theorem dX10_multiply_88 : decode cX10_multiply 88 = .ok (.iinc 4 1, 3) := by decide +kernel
theorem dX10_multiply_91 : decode cX10_multiply 91 = .ok (.goto (-64), 3) := by decide +kernel
theorem dX10_multiply_94 : decode cX10_multiply 94 = .ok (.iconst 0, 1) := by decide +kernel
theorem dX10_multiply_95 : decode cX10_multiply 95 = .ok (.istore 4, 2) := by decide +kernel
theorem dX10_multiply_97 : decode cX10_multiply 97 = .ok (.iload 4, 2) := by decide +kernel
theorem dX10_multiply_99 : decode cX10_multiply 99 = .ok (.bipush 16, 2) := by decide +kernel
theorem dX10_multiply_101 : decode cX10_multiply 101 = .ok (.if_icmp .ge 43, 3) := by decide +kernel
theorem dX10_multiply_104 : decode cX10_multiply 104 = .ok (.aload_n 0, 1) := by decide +kernel
theorem dX10_multiply_105 : decode cX10_multiply 105 = .ok (.getfield 21, 3) := by decide +kernel
theorem dX10_multiply_108 : decode cX10_multiply 108 = .ok (.bipush 16, 2) := by decide +kernel
theorem dX10_multiply_110 : decode cX10_multiply 110 = .ok (.iload_n 1, 1) := by decide +kernel
theorem dX10_multiply_111 : decode cX10_multiply 111 = .ok (.imul, 1) := by decide +kernel
theorem dX10_multiply_112 : decode cX10_multiply 112 = .ok (.iload 4, 2) := by decide +kernel
theorem dX10_multiply_114 : decode cX10_multiply 114 = .ok (.iadd, 1) := by decide +kernel
theorem dX10_multiply_115 : decode cX10_multiply 115 = .ok (.aload_n 0, 1) := by decide +kernel
theorem dX10_multiply_116 : decode cX10_multiply 116 = .ok (.getfield 24, 3) := by decide +kernel
theorem dX10_multiply_119 : decode cX10_multiply 119 = .ok (.iload 4, 2) := by decide +kernel
theorem dX10_multiply_121 : decode cX10_multiply 121 = .ok (.laload, 1) := by decide +kernel
theorem dX10_multiply_122 : decode cX10_multiply 122 = .ok (.ldc2_w 143, 3) := by decide +kernel
theorem dX10_multiply_125 : decode cX10_multiply 125 = .ok (.aload_n 0, 1) := by decide +kernel
theorem dX10_multiply_126 : decode cX10_multiply 126 = .ok (.getfield 24, 3) := by decide +kernel
theorem dX10_multiply_129 : decode cX10_multiply 129 = .ok (.iload 4, 2) := by decide +kernel
theorem dX10_multiply_131 : decode cX10_multiply 131 = .ok (.bipush 16, 2) := by decide +kernel
theorem dX10_multiply_133 : decode cX10_multiply 133 = .ok (.iadd, 1) := by decide +kernel
theorem dX10_multiply_134 : decode cX10_multiply 134 = .ok (.laload, 1) := by decide +kernel
theorem dX10_multiply_135 : decode cX10_multiply 135 = .ok (.lmul, 1) := by decide +kernel
theorem dX10_multiply_136 : decode cX10_multiply 136 = .ok (.ladd, 1) := by decide +kernel
theorem dX10_multiply_137 : decode cX10_multiply 137 = .ok (.lastore, 1) := by decide +kernel
theorem dX10_multiply_138 : decode cX10_multiply 138 = .ok (.iinc 4 1, 3) := by decide +kernel
theorem dX10_multiply_141 : decode cX10_multiply 141 = .ok (.goto (-44), 3) := by decide +kernel
theorem dX10_multiply_144 : decode cX10_multiply 144 = .ok (.aload_n 0, 1) := by decide +kernel
theorem dX10_multiply_145 : decode cX10_multiply 145 = .ok (.iload_n 1, 1) := by decide +kernel
theorem dX10_multiply_146 : decode cX10_multiply 146 = .ok (.invokevirtual 113, 3) := by decide +kernel
theorem dX10_multiply_149 : decode cX10_multiply 149 = .ok (.aload_n 0, 1) := by decide +kernel
theorem dX10_multiply_150 : decode cX10_multiply 150 = .ok (.iload_n 1, 1) := by decide +kernel
theorem dX10_multiply_151 : decode cX10_multiply 151 = .ok (.invokevirtual 113, 3) := by decide +kernel
theorem dX10_multiply_154 : decode cX10_multiply 154 = .ok (.aload_n 0, 1) := by decide +kernel
theorem dX10_multiply_155 : decode cX10_multiply 155 = .ok (.iload_n 1, 1) := by decide +kernel
theorem dX10_multiply_156 : decode cX10_multiply 156 = .ok (.invokevirtual 113, 3) := by decide +kernel
theorem dX10_multiply_159 : decode cX10_multiply 159 = .ok (.return_, 1) := by decide +kernel
theorem dX10_raise_0 : decode cX10_raise 0 = .ok (.aload_n 0, 1) := by decide +kernel
theorem dX10_raise_1 : decode cX10_raise 1 = .ok (.bipush 35, 2) := by decide +kernel
theorem dX10_raise_3 : decode cX10_raise 3 = .ok (.iload_n 2, 1) := by decide +kernel
theorem dX10_raise_4 : decode cX10_raise 4 = .ok (.invokevirtual 145, 3) := by decide +kernel
theorem dX10_raise_7 : decode cX10_raise 7 = .ok (.aload_n 0, 1) := by decide +kernel
theorem dX10_raise_8 : decode cX10_raise 8 = .ok (.iload_n 1, 1) := by decide +kernel
theorem dX10_raise_9 : decode cX10_raise 9 = .ok (.lconst 1, 1) := by decide +kernel
theorem dX10_raise_10 : decode cX10_raise 10 = .ok (.invokevirtual 82, 3) := by decide +kernel
theorem dX10_raise_13 : decode cX10_raise 13 = .ok (.sipush 255, 3) := by decide +kernel
theorem dX10_raise_16 : decode cX10_raise 16 = .ok (.istore 4, 2) := by decide +kernel
theorem dX10_raise_18 : decode cX10_raise 18 = .ok (.iload 4, 2) := by decide +kernel
theorem dX10_raise_20 : decode cX10_raise 20 = .ok (.ifCond .lt 35, 3) := by decide +kernel
theorem dX10_raise_23 : decode cX10_raise 23 = .ok (.aload_n 0, 1) := by decide +kernel
theorem dX10_raise_24 : decode cX10_raise 24 = .ok (.iload_n 1, 1) := by decide +kernel
theorem dX10_raise_25 : decode cX10_raise 25 = .ok (.iload_n 1, 1) := by decide +kernel
theorem dX10_raise_26 : decode cX10_raise 26 = .ok (.iload_n 1, 1) := by decide +kernel
theorem dX10_raise_27 : decode cX10_raise 27 = .ok (.invokevirtual 107, 3) := by decide +kernel
theorem dX10_raise_30 : decode cX10_raise 30 = .ok (.aload_n 0, 1) := by decide +kernel
theorem dX10_raise_31 : decode cX10_raise 31 = .ok (.iload_n 3, 1) := by decide +kernel
theorem dX10_raise_32 : decode cX10_raise 32 = .ok (.iload 4, 2) := by decide +kernel
theorem dX10_raise_34 : decode cX10_raise 34 = .ok (.invokevirtual 148, 3) := by decide +kernel
theorem dX10_raise_37 : decode cX10_raise 37 = .ok (.iconst 1, 1) := by decide +kernel
theorem dX10_raise_38 : decode cX10_raise 38 = .ok (.if_icmp .ne 11, 3) := by decide +kernel
theorem dX10_raise_41 : decode cX10_raise 41 = .ok (.aload_n 0, 1) := by decide +kernel
theorem dX10_raise_42 : decode cX10_raise 42 = .ok (.iload_n 1, 1) := by decide +kernel
theorem dX10_raise_43 : decode cX10_raise 43 = .ok (.iload_n 1, 1) := by decide +kernel
theorem dX10_raise_44 : decode cX10_raise 44 = .ok (.bipush 35, 2) := by decide +kernel
theorem dX10_raise_46 : decode cX10_raise 46 = .ok (.invokevirtual 107, 3) := by decide +kernel
theorem dX10_raise_49 : decode cX10_raise 49 = .ok (.iinc 4 (-1), 3) := by decide +kernel
theorem dX10_raise_52 : decode cX10_raise 52 = .ok (.goto (-34), 3) := by decide +kernel
theorem dX10_raise_55 : decode cX10_raise 55 = .ok (.return_, 1) := by decide +kernel
theorem dX10_invert_0 : decode cX10_invert 0 = .ok (.aload_n 0, 1) := by decide +kernel
theorem dX10_invert_1 : decode cX10_invert 1 = .ok (.iconst 0, 1) := by decide +kernel
theorem dX10_invert_2 : decode cX10_invert 2 = .ok (.ldc2_w 152, 3) := by decide +kernel
theorem dX10_invert_5 : decode cX10_invert 5 = .ok (.ldc2_w 68, 3) := by decide +kernel
theorem dX10_invert_8 : decode cX10_invert 8 = .ok (.ldc2_w 68, 3) := by decide +kernel
theorem dX10_invert_11 : decode cX10_invert 11 = .ok (.ldc2_w 70, 3) := by decide +kernel
theorem dX10_invert_14 : decode cX10_invert 14 = .ok (.invokevirtual 72, 3) := by decide +kernel
theorem dX10_invert_17 : decode cX10_invert 17 = .ok (.aload_n 0, 1) := by decide +kernel
theorem dX10_invert_18 : decode cX10_invert 18 = .ok (.bipush 45, 2) := by decide +kernel
theorem dX10_invert_20 : decode cX10_invert 20 = .ok (.iload_n 2, 1) := by decide +kernel
theorem dX10_invert_21 : decode cX10_invert 21 = .ok (.invokevirtual 145, 3) := by decide +kernel
theorem dX10_invert_24 : decode cX10_invert 24 = .ok (.aload_n 0, 1) := by decide +kernel
theorem dX10_invert_25 : decode cX10_invert 25 = .ok (.iload_n 1, 1) := by decide +kernel
theorem dX10_invert_26 : decode cX10_invert 26 = .ok (.bipush 45, 2) := by decide +kernel
theorem dX10_invert_28 : decode cX10_invert 28 = .ok (.iconst 0, 1) := by decide +kernel
theorem dX10_invert_29 : decode cX10_invert 29 = .ok (.invokevirtual 92, 3) := by decide +kernel
theorem dX10_invert_32 : decode cX10_invert 32 = .ok (.return_, 1) := by decide +kernel
theorem dX10_pack_0 : decode cX10_pack 0 = .ok (.aload_n 0, 1) := by decide +kernel
theorem dX10_pack_1 : decode cX10_pack 1 = .ok (.bipush 34, 2) := by decide +kernel
theorem dX10_pack_3 : decode cX10_pack 3 = .ok (.iload_n 2, 1) := by decide +kernel
theorem dX10_pack_4 : decode cX10_pack 4 = .ok (.invokevirtual 145, 3) := by decide +kernel
theorem dX10_pack_7 : decode cX10_pack 7 = .ok (.iconst 0, 1) := by decide +kernel
theorem dX10_pack_8 : decode cX10_pack 8 = .ok (.istore_n 3, 1) := by decide +kernel
theorem dX10_pack_9 : decode cX10_pack 9 = .ok (.iload_n 3, 1) := by decide +kernel
theorem dX10_pack_10 : decode cX10_pack 10 = .ok (.iconst 4, 1) := by decide +kernel
theorem dX10_pack_11 : decode cX10_pack 11 = .ok (.if_icmp .ge 15, 3) := by decide +kernel
theorem dX10_pack_14 : decode cX10_pack 14 = .ok (.aload_n 0, 1) := by decide +kernel
theorem dX10_pack_15 : decode cX10_pack 15 = .ok (.bipush 34, 2) := by decide +kernel
theorem dX10_pack_17 : decode cX10_pack 17 = .ok (.invokevirtual 113, 3) := by decide +kernel
theorem dX10_pack_20 : decode cX10_pack 20 = .ok (.iinc 3 1, 3) := by decide +kernel
theorem dX10_pack_23 : decode cX10_pack 23 = .ok (.goto (-14), 3) := by decide +kernel
theorem dX10_pack_26 : decode cX10_pack 26 = .ok (.iconst 0, 1) := by decide +kernel
theorem dX10_pack_27 : decode cX10_pack 27 = .ok (.istore_n 3, 1) := by decide +kernel
theorem dX10_pack_28 : decode cX10_pack 28 = .ok (.iload_n 3, 1) := by decide +kernel
theorem dX10_pack_29 : decode cX10_pack 29 = .ok (.iconst 3, 1) := by decide +kernel
theorem dX10_pack_30 : decode cX10_pack 30 = .ok (.if_icmp .ge 13, 3) := by decide +kernel
theorem dX10_pack_33 : decode cX10_pack 33 = .ok (.aload_n 0, 1) := by decide +kernel
theorem dX10_pack_34 : decode cX10_pack 34 = .ok (.invokevirtual 154, 3) := by decide +kernel
theorem dX10_pack_37 : decode cX10_pack 37 = .ok (.iinc 3 1, 3) := by decide +kernel
theorem dX10_pack_40 : decode cX10_pack 40 = .ok (.goto (-12), 3) := by decide +kernel
theorem dX10_pack_43 : decode cX10_pack 43 = .ok (.iconst 0, 1) := by decide +kernel
theorem dX10_pack_44 : decode cX10_pack 44 = .ok (.istore_n 3, 1) := by decide +kernel
theorem dX10_pack_45 : decode cX10_pack 45 = .ok (.iload_n 3, 1) := by decide +kernel
theorem dX10_pack_46 : decode cX10_pack 46 = .ok (.iconst 4, 1) := by decide +kernel
theorem dX10_pack_47 : decode cX10_pack 47 = .ok (.if_icmp .ge 72, 3) := by decide +kernel
theorem dX10_pack_50 : decode cX10_pack 50 = .ok (.sipush 544, 3) := by decide +kernel
theorem dX10_pack_53 : decode cX10_pack 53 = .ok (.iconst 4, 1) := by decide +kernel
theorem dX10_pack_54 : decode cX10_pack 54 = .ok (.iload_n 3, 1) := by decide +kernel
theorem dX10_pack_55 : decode cX10_pack 55 = .ok (.imul, 1) := by decide +kernel
theorem dX10_pack_56 : decode cX10_pack 56 = .ok (.iadd, 1) := by decide +kernel
theorem dX10_pack_57 : decode cX10_pack 57 = .ok (.istore 4, 2) := by decide +kernel
theorem dX10_pack_59 : decode cX10_pack 59 = .ok (.aload_n 0, 1) := by decide +kernel
theorem dX10_pack_60 : decode cX10_pack 60 = .ok (.getfield 27, 3) := by decide +kernel
theorem dX10_pack_63 : decode cX10_pack 63 = .ok (.iload_n 1, 1) := by decide +kernel
theorem dX10_pack_64 : decode cX10_pack 64 = .ok (.iload_n 3, 1) := by decide +kernel
theorem dX10_pack_65 : decode cX10_pack 65 = .ok (.iadd, 1) := by decide +kernel
theorem dX10_pack_66 : decode cX10_pack 66 = .ok (.aload_n 0, 1) := by decide +kernel
theorem dX10_pack_67 : decode cX10_pack 67 = .ok (.getfield 21, 3) := by decide +kernel
theorem dX10_pack_70 : decode cX10_pack 70 = .ok (.iload 4, 2) := by decide +kernel
theorem dX10_pack_72 : decode cX10_pack 72 = .ok (.laload, 1) := by decide +kernel
theorem dX10_pack_73 : decode cX10_pack 73 = .ok (.aload_n 0, 1) := by decide +kernel
theorem dX10_pack_74 : decode cX10_pack 74 = .ok (.getfield 21, 3) := by decide +kernel
theorem dX10_pack_77 : decode cX10_pack 77 = .ok (.iload 4, 2) := by decide +kernel
theorem dX10_pack_79 : decode cX10_pack 79 = .ok (.iconst 1, 1) := by decide +kernel
theorem dX10_pack_80 : decode cX10_pack 80 = .ok (.iadd, 1) := by decide +kernel
theorem dX10_pack_81 : decode cX10_pack 81 = .ok (.laload, 1) := by decide +kernel
theorem dX10_pack_82 : decode cX10_pack 82 = .ok (.bipush 16, 2) := by decide +kernel
theorem dX10_pack_84 : decode cX10_pack 84 = .ok (.lshl, 1) := by decide +kernel
theorem dX10_pack_85 : decode cX10_pack 85 = .ok (.lor, 1) := by decide +kernel
theorem dX10_pack_86 : decode cX10_pack 86 = .ok (.aload_n 0, 1) := by decide +kernel
theorem dX10_pack_87 : decode cX10_pack 87 = .ok (.getfield 21, 3) := by decide +kernel
theorem dX10_pack_90 : decode cX10_pack 90 = .ok (.iload 4, 2) := by decide +kernel
theorem dX10_pack_92 : decode cX10_pack 92 = .ok (.iconst 2, 1) := by decide +kernel
theorem dX10_pack_93 : decode cX10_pack 93 = .ok (.iadd, 1) := by decide +kernel
theorem dX10_pack_94 : decode cX10_pack 94 = .ok (.laload, 1) := by decide +kernel
theorem dX10_pack_95 : decode cX10_pack 95 = .ok (.bipush 32, 2) := by decide +kernel
theorem dX10_pack_97 : decode cX10_pack 97 = .ok (.lshl, 1) := by decide +kernel
theorem dX10_pack_98 : decode cX10_pack 98 = .ok (.lor, 1) := by decide +kernel
theorem dX10_pack_99 : decode cX10_pack 99 = .ok (.aload_n 0, 1) := by decide +kernel
theorem dX10_pack_100 : decode cX10_pack 100 = .ok (.getfield 21, 3) := by decide +kernel
theorem dX10_pack_103 : decode cX10_pack 103 = .ok (.iload 4, 2) := by decide +kernel
theorem dX10_pack_105 : decode cX10_pack 105 = .ok (.iconst 3, 1) := by decide +kernel
theorem dX10_pack_106 : decode cX10_pack 106 = .ok (.iadd, 1) := by decide +kernel
theorem dX10_pack_107 : decode cX10_pack 107 = .ok (.laload, 1) := by decide +kernel
theorem dX10_pack_108 : decode cX10_pack 108 = .ok (.bipush 48, 2) := by decide +kernel
theorem dX10_pack_110 : decode cX10_pack 110 = .ok (.lshl, 1) := by decide +kernel
theorem dX10_pack_111 : decode cX10_pack 111 = .ok (.lor, 1) := by decide +kernel
theorem dX10_pack_112 : decode cX10_pack 112 = .ok (.lastore, 1) := by decide +kernel
theorem dX10_pack_113 : decode cX10_pack 113 = .ok (.iinc 3 1, 3) := by decide +kernel
theorem dX10_pack_116 : decode cX10_pack 116 = .ok (.goto (-71), 3) := by decide +kernel
theorem dX10_pack_119 : decode cX10_pack 119 = .ok (.return_, 1) := by decide +kernel
theorem dX10_lessPrime_0 : decode cX10_lessPrime 0 = .ok (.lconst 0, 1) := by decide +kernel
theorem dX10_lessPrime_1 : decode cX10_lessPrime 1 = .ok (.lstore_n 1, 1) := by decide +kernel
theorem dX10_lessPrime_2 : decode cX10_lessPrime 2 = .ok (.iconst 0, 1) := by decide +kernel
theorem dX10_lessPrime_3 : decode cX10_lessPrime 3 = .ok (.istore_n 3, 1) := by decide +kernel
theorem dX10_lessPrime_4 : decode cX10_lessPrime 4 = .ok (.iload_n 3, 1) := by decide +kernel
theorem dX10_lessPrime_5 : decode cX10_lessPrime 5 = .ok (.bipush 16, 2) := by decide +kernel
theorem dX10_lessPrime_7 : decode cX10_lessPrime 7 = .ok (.if_icmp .ge 67, 3) := by decide +kernel
theorem dX10_lessPrime_10 : decode cX10_lessPrime 10 = .ok (.aload_n 0, 1) := by decide +kernel
theorem dX10_lessPrime_11 : decode cX10_lessPrime 11 = .ok (.getfield 21, 3) := by decide +kernel
theorem dX10_lessPrime_14 : decode cX10_lessPrime 14 = .ok (.sipush 544, 3) := by decide +kernel
theorem dX10_lessPrime_17 : decode cX10_lessPrime 17 = .ok (.iload_n 3, 1) := by decide +kernel
theorem dX10_lessPrime_18 : decode cX10_lessPrime 18 = .ok (.iadd, 1) := by decide +kernel
theorem dX10_lessPrime_19 : decode cX10_lessPrime 19 = .ok (.laload, 1) := by decide +kernel
theorem dX10_lessPrime_20 : decode cX10_lessPrime 20 = .ok (.iload_n 3, 1) := by decide +kernel
theorem dX10_lessPrime_21 : decode cX10_lessPrime 21 = .ok (.ifCond .ne 9, 3) := by decide +kernel
theorem dX10_lessPrime_24 : decode cX10_lessPrime 24 = .ok (.ldc2_w 157, 3) := by decide +kernel
theorem dX10_lessPrime_27 : decode cX10_lessPrime 27 = .ok (.goto 18, 3) := by decide +kernel
theorem dX10_lessPrime_30 : decode cX10_lessPrime 30 = .ok (.iload_n 3, 1) := by decide +kernel
theorem dX10_lessPrime_31 : decode cX10_lessPrime 31 = .ok (.bipush 15, 2) := by decide +kernel
theorem dX10_lessPrime_33 : decode cX10_lessPrime 33 = .ok (.if_icmp .ne 9, 3) := by decide +kernel
theorem dX10_lessPrime_36 : decode cX10_lessPrime 36 = .ok (.ldc2_w 159, 3) := by decide +kernel
theorem dX10_lessPrime_39 : decode cX10_lessPrime 39 = .ok (.goto 6, 3) := by decide +kernel
theorem dX10_lessPrime_42 : decode cX10_lessPrime 42 = .ok (.ldc2_w 141, 3) := by decide +kernel
theorem dX10_lessPrime_45 : decode cX10_lessPrime 45 = .ok (.lsub, 1) := by decide +kernel
theorem dX10_lessPrime_46 : decode cX10_lessPrime 46 = .ok (.lload_n 1, 1) := by decide +kernel
theorem dX10_lessPrime_47 : decode cX10_lessPrime 47 = .ok (.ladd, 1) := by decide +kernel
theorem dX10_lessPrime_48 : decode cX10_lessPrime 48 = .ok (.lstore 4, 2) := by decide +kernel
theorem dX10_lessPrime_50 : decode cX10_lessPrime 50 = .ok (.aload_n 0, 1) := by decide +kernel
theorem dX10_lessPrime_51 : decode cX10_lessPrime 51 = .ok (.getfield 24, 3) := by decide +kernel
theorem dX10_lessPrime_54 : decode cX10_lessPrime 54 = .ok (.iload_n 3, 1) := by decide +kernel
theorem dX10_lessPrime_55 : decode cX10_lessPrime 55 = .ok (.lload 4, 2) := by decide +kernel
theorem dX10_lessPrime_57 : decode cX10_lessPrime 57 = .ok (.ldc2_w 141, 3) := by decide +kernel
theorem dX10_lessPrime_60 : decode cX10_lessPrime 60 = .ok (.land, 1) := by decide +kernel
theorem dX10_lessPrime_61 : decode cX10_lessPrime 61 = .ok (.lastore, 1) := by decide +kernel
theorem dX10_lessPrime_62 : decode cX10_lessPrime 62 = .ok (.lload 4, 2) := by decide +kernel
theorem dX10_lessPrime_64 : decode cX10_lessPrime 64 = .ok (.bipush 16, 2) := by decide +kernel
theorem dX10_lessPrime_66 : decode cX10_lessPrime 66 = .ok (.lshr, 1) := by decide +kernel
theorem dX10_lessPrime_67 : decode cX10_lessPrime 67 = .ok (.lstore_n 1, 1) := by decide +kernel
theorem dX10_lessPrime_68 : decode cX10_lessPrime 68 = .ok (.iinc 3 1, 3) := by decide +kernel
theorem dX10_lessPrime_71 : decode cX10_lessPrime 71 = .ok (.goto (-67), 3) := by decide +kernel
theorem dX10_lessPrime_74 : decode cX10_lessPrime 74 = .ok (.lload_n 1, 1) := by decide +kernel
theorem dX10_lessPrime_75 : decode cX10_lessPrime 75 = .ok (.lconst 0, 1) := by decide +kernel
theorem dX10_lessPrime_76 : decode cX10_lessPrime 76 = .ok (.lcmp, 1) := by decide +kernel
theorem dX10_lessPrime_77 : decode cX10_lessPrime 77 = .ok (.ifCond .ne 33, 3) := by decide +kernel
theorem dX10_lessPrime_80 : decode cX10_lessPrime 80 = .ok (.iconst 0, 1) := by decide +kernel
theorem dX10_lessPrime_81 : decode cX10_lessPrime 81 = .ok (.istore_n 3, 1) := by decide +kernel
theorem dX10_lessPrime_82 : decode cX10_lessPrime 82 = .ok (.iload_n 3, 1) := by decide +kernel
theorem dX10_lessPrime_83 : decode cX10_lessPrime 83 = .ok (.bipush 16, 2) := by decide +kernel
theorem dX10_lessPrime_85 : decode cX10_lessPrime 85 = .ok (.if_icmp .ge 25, 3) := by decide +kernel
theorem dX10_lessPrime_88 : decode cX10_lessPrime 88 = .ok (.aload_n 0, 1) := by decide +kernel
theorem dX10_lessPrime_89 : decode cX10_lessPrime 89 = .ok (.getfield 21, 3) := by decide +kernel
theorem dX10_lessPrime_92 : decode cX10_lessPrime 92 = .ok (.sipush 544, 3) := by decide +kernel
theorem dX10_lessPrime_95 : decode cX10_lessPrime 95 = .ok (.iload_n 3, 1) := by decide +kernel
theorem dX10_lessPrime_96 : decode cX10_lessPrime 96 = .ok (.iadd, 1) := by decide +kernel
theorem dX10_lessPrime_97 : decode cX10_lessPrime 97 = .ok (.aload_n 0, 1) := by decide +kernel
theorem dX10_lessPrime_98 : decode cX10_lessPrime 98 = .ok (.getfield 24, 3) := by decide +kernel
theorem dX10_lessPrime_101 : decode cX10_lessPrime 101 = .ok (.iload_n 3, 1) := by decide +kernel
theorem dX10_lessPrime_102 : decode cX10_lessPrime 102 = .ok (.laload, 1) := by decide +kernel
theorem dX10_lessPrime_103 : decode cX10_lessPrime 103 = .ok (.lastore, 1) := by decide +kernel
theorem dX10_lessPrime_104 : decode cX10_lessPrime 104 = .ok (.iinc 3 1, 3) := by decide +kernel
theorem dX10_lessPrime_107 : decode cX10_lessPrime 107 = .ok (.goto (-25), 3) := by decide +kernel
theorem dX10_lessPrime_110 : decode cX10_lessPrime 110 = .ok (.return_, 1) := by decide +kernel
theorem dX10_unpack_0 : decode cX10_unpack 0 = .ok (.iconst 0, 1) := by decide +kernel
theorem dX10_unpack_1 : decode cX10_unpack 1 = .ok (.istore_n 3, 1) := by decide +kernel
theorem dX10_unpack_2 : decode cX10_unpack 2 = .ok (.iload_n 3, 1) := by decide +kernel
theorem dX10_unpack_3 : decode cX10_unpack 3 = .ok (.bipush 16, 2) := by decide +kernel
theorem dX10_unpack_5 : decode cX10_unpack 5 = .ok (.if_icmp .ge 41, 3) := by decide +kernel
theorem dX10_unpack_8 : decode cX10_unpack 8 = .ok (.aload_n 0, 1) := by decide +kernel
theorem dX10_unpack_9 : decode cX10_unpack 9 = .ok (.getfield 21, 3) := by decide +kernel
theorem dX10_unpack_12 : decode cX10_unpack 12 = .ok (.bipush 16, 2) := by decide +kernel
theorem dX10_unpack_14 : decode cX10_unpack 14 = .ok (.iload_n 1, 1) := by decide +kernel
theorem dX10_unpack_15 : decode cX10_unpack 15 = .ok (.imul, 1) := by decide +kernel
theorem dX10_unpack_16 : decode cX10_unpack 16 = .ok (.iload_n 3, 1) := by decide +kernel
theorem dX10_unpack_17 : decode cX10_unpack 17 = .ok (.iadd, 1) := by decide +kernel
theorem dX10_unpack_18 : decode cX10_unpack 18 = .ok (.aload_n 0, 1) := by decide +kernel
theorem dX10_unpack_19 : decode cX10_unpack 19 = .ok (.getfield 27, 3) := by decide +kernel
theorem dX10_unpack_22 : decode cX10_unpack 22 = .ok (.iload_n 2, 1) := by decide +kernel
theorem dX10_unpack_23 : decode cX10_unpack 23 = .ok (.iload_n 3, 1) := by decide +kernel
theorem dX10_unpack_24 : decode cX10_unpack 24 = .ok (.iconst 4, 1) := by decide +kernel
theorem dX10_unpack_25 : decode cX10_unpack 25 = .ok (.idiv, 1) := by decide +kernel
theorem dX10_unpack_26 : decode cX10_unpack 26 = .ok (.iadd, 1) := by decide +kernel
theorem dX10_unpack_27 : decode cX10_unpack 27 = .ok (.laload, 1) := by decide +kernel
theorem dX10_unpack_28 : decode cX10_unpack 28 = .ok (.bipush 16, 2) := by decide +kernel
theorem dX10_unpack_30 : decode cX10_unpack 30 = .ok (.iload_n 3, 1) := by decide +kernel
theorem dX10_unpack_31 : decode cX10_unpack 31 = .ok (.iconst 4, 1) := by decide +kernel
theorem dX10_unpack_32 : decode cX10_unpack 32 = .ok (.irem, 1) := by decide +kernel
theorem dX10_unpack_33 : decode cX10_unpack 33 = .ok (.imul, 1) := by decide +kernel
theorem dX10_unpack_34 : decode cX10_unpack 34 = .ok (.lushr, 1) := by decide +kernel
theorem dX10_unpack_35 : decode cX10_unpack 35 = .ok (.ldc2_w 141, 3) := by decide +kernel
theorem dX10_unpack_38 : decode cX10_unpack 38 = .ok (.land, 1) := by decide +kernel
theorem dX10_unpack_39 : decode cX10_unpack 39 = .ok (.lastore, 1) := by decide +kernel
theorem dX10_unpack_40 : decode cX10_unpack 40 = .ok (.iinc 3 1, 3) := by decide +kernel
theorem dX10_unpack_43 : decode cX10_unpack 43 = .ok (.goto (-41), 3) := by decide +kernel
theorem dX10_unpack_46 : decode cX10_unpack 46 = .ok (.aload_n 0, 1) := by decide +kernel
theorem dX10_unpack_47 : decode cX10_unpack 47 = .ok (.getfield 21, 3) := by decide +kernel
theorem dX10_unpack_50 : decode cX10_unpack 50 = .ok (.bipush 16, 2) := by decide +kernel
theorem dX10_unpack_52 : decode cX10_unpack 52 = .ok (.iload_n 1, 1) := by decide +kernel
theorem dX10_unpack_53 : decode cX10_unpack 53 = .ok (.imul, 1) := by decide +kernel
theorem dX10_unpack_54 : decode cX10_unpack 54 = .ok (.bipush 15, 2) := by decide +kernel
theorem dX10_unpack_56 : decode cX10_unpack 56 = .ok (.iadd, 1) := by decide +kernel
theorem dX10_unpack_57 : decode cX10_unpack 57 = .ok (.dup2, 1) := by decide +kernel
theorem dX10_unpack_58 : decode cX10_unpack 58 = .ok (.laload, 1) := by decide +kernel
theorem dX10_unpack_59 : decode cX10_unpack 59 = .ok (.ldc2_w 159, 3) := by decide +kernel
theorem dX10_unpack_62 : decode cX10_unpack 62 = .ok (.land, 1) := by decide +kernel
theorem dX10_unpack_63 : decode cX10_unpack 63 = .ok (.lastore, 1) := by decide +kernel
theorem dX10_unpack_64 : decode cX10_unpack 64 = .ok (.return_, 1) := by decide +kernel
theorem dX10_isSame_0 : decode cX10_isSame 0 = .ok (.aload_n 0, 1) := by decide +kernel
theorem dX10_isSame_1 : decode cX10_isSame 1 = .ok (.bipush 24, 2) := by decide +kernel
theorem dX10_isSame_3 : decode cX10_isSame 3 = .ok (.iload_n 1, 1) := by decide +kernel
theorem dX10_isSame_4 : decode cX10_isSame 4 = .ok (.invokevirtual 121, 3) := by decide +kernel
theorem dX10_isSame_7 : decode cX10_isSame 7 = .ok (.aload_n 0, 1) := by decide +kernel
theorem dX10_isSame_8 : decode cX10_isSame 8 = .ok (.bipush 16, 2) := by decide +kernel
theorem dX10_isSame_10 : decode cX10_isSame 10 = .ok (.aload_n 0, 1) := by decide +kernel
theorem dX10_isSame_11 : decode cX10_isSame 11 = .ok (.getfield 27, 3) := by decide +kernel
theorem dX10_isSame_14 : decode cX10_isSame 14 = .ok (.bipush 24, 2) := by decide +kernel
theorem dX10_isSame_16 : decode cX10_isSame 16 = .ok (.laload, 1) := by decide +kernel
theorem dX10_isSame_17 : decode cX10_isSame 17 = .ok (.aload_n 0, 1) := by decide +kernel
theorem dX10_isSame_18 : decode cX10_isSame 18 = .ok (.getfield 27, 3) := by decide +kernel
theorem dX10_isSame_21 : decode cX10_isSame 21 = .ok (.bipush 25, 2) := by decide +kernel
theorem dX10_isSame_23 : decode cX10_isSame 23 = .ok (.laload, 1) := by decide +kernel
theorem dX10_isSame_24 : decode cX10_isSame 24 = .ok (.aload_n 0, 1) := by decide +kernel
theorem dX10_isSame_25 : decode cX10_isSame 25 = .ok (.getfield 27, 3) := by decide +kernel
theorem dX10_isSame_28 : decode cX10_isSame 28 = .ok (.bipush 26, 2) := by decide +kernel
theorem dX10_isSame_30 : decode cX10_isSame 30 = .ok (.laload, 1) := by decide +kernel
theorem dX10_isSame_31 : decode cX10_isSame 31 = .ok (.aload_n 0, 1) := by decide +kernel
theorem dX10_isSame_32 : decode cX10_isSame 32 = .ok (.getfield 27, 3) := by decide +kernel
theorem dX10_isSame_35 : decode cX10_isSame 35 = .ok (.bipush 27, 2) := by decide +kernel
theorem dX10_isSame_37 : decode cX10_isSame 37 = .ok (.laload, 1) := by decide +kernel
theorem dX10_isSame_38 : decode cX10_isSame 38 = .ok (.invokevirtual 72, 3) := by decide +kernel
theorem dX10_isSame_41 : decode cX10_isSame 41 = .ok (.aload_n 0, 1) := by decide +kernel
theorem dX10_isSame_42 : decode cX10_isSame 42 = .ok (.bipush 24, 2) := by decide +kernel
theorem dX10_isSame_44 : decode cX10_isSame 44 = .ok (.iload_n 2, 1) := by decide +kernel
theorem dX10_isSame_45 : decode cX10_isSame 45 = .ok (.invokevirtual 121, 3) := by decide +kernel
theorem dX10_isSame_48 : decode cX10_isSame 48 = .ok (.aload_n 0, 1) := by decide +kernel
theorem dX10_isSame_49 : decode cX10_isSame 49 = .ok (.bipush 24, 2) := by decide +kernel
theorem dX10_isSame_51 : decode cX10_isSame 51 = .ok (.bipush 16, 2) := by decide +kernel
theorem dX10_isSame_53 : decode cX10_isSame 53 = .ok (.invokevirtual 161, 3) := by decide +kernel
theorem dX10_isSame_56 : decode cX10_isSame 56 = .ok (.ifCond .ne 7, 3) := by decide +kernel
theorem dX10_isSame_59 : decode cX10_isSame 59 = .ok (.iconst 1, 1) := by decide +kernel
theorem dX10_isSame_60 : decode cX10_isSame 60 = .ok (.goto 4, 3) := by decide +kernel
theorem dX10_isSame_63 : decode cX10_isSame 63 = .ok (.iconst 0, 1) := by decide +kernel
theorem dX10_isSame_64 : decode cX10_isSame 64 = .ok (.ireturn, 1) := by decide +kernel
theorem dX10_lowest_0 : decode cX10_lowest 0 = .ok (.aload_n 0, 1) := by decide +kernel
theorem dX10_lowest_1 : decode cX10_lowest 1 = .ok (.bipush 24, 2) := by decide +kernel
theorem dX10_lowest_3 : decode cX10_lowest 3 = .ok (.iload_n 1, 1) := by decide +kernel
theorem dX10_lowest_4 : decode cX10_lowest 4 = .ok (.invokevirtual 121, 3) := by decide +kernel
theorem dX10_lowest_7 : decode cX10_lowest 7 = .ok (.aload_n 0, 1) := by decide +kernel
theorem dX10_lowest_8 : decode cX10_lowest 8 = .ok (.getfield 27, 3) := by decide +kernel
theorem dX10_lowest_11 : decode cX10_lowest 11 = .ok (.bipush 24, 2) := by decide +kernel
theorem dX10_lowest_13 : decode cX10_lowest 13 = .ok (.laload, 1) := by decide +kernel
theorem dX10_lowest_14 : decode cX10_lowest 14 = .ok (.lconst 1, 1) := by decide +kernel
theorem dX10_lowest_15 : decode cX10_lowest 15 = .ok (.land, 1) := by decide +kernel
theorem dX10_lowest_16 : decode cX10_lowest 16 = .ok (.l2i, 1) := by decide +kernel
theorem dX10_lowest_17 : decode cX10_lowest 17 = .ok (.ireturn, 1) := by decide +kernel
theorem dX10_roots_0 : decode cX10_roots 0 = .ok (.aload_n 0, 1) := by decide +kernel
theorem dX10_roots_1 : decode cX10_roots 1 = .ok (.iconst 0, 1) := by decide +kernel
theorem dX10_roots_2 : decode cX10_roots 2 = .ok (.ldc2_w 164, 3) := by decide +kernel
theorem dX10_roots_5 : decode cX10_roots 5 = .ok (.ldc2_w 68, 3) := by decide +kernel
theorem dX10_roots_8 : decode cX10_roots 8 = .ok (.ldc2_w 68, 3) := by decide +kernel
theorem dX10_roots_11 : decode cX10_roots 11 = .ok (.ldc2_w 166, 3) := by decide +kernel
theorem dX10_roots_14 : decode cX10_roots 14 = .ok (.invokevirtual 72, 3) := by decide +kernel
theorem dX10_roots_17 : decode cX10_roots 17 = .ok (.aload_n 0, 1) := by decide +kernel
theorem dX10_roots_18 : decode cX10_roots 18 = .ok (.bipush 44, 2) := by decide +kernel
theorem dX10_roots_20 : decode cX10_roots 20 = .ok (.iload_n 2, 1) := by decide +kernel
theorem dX10_roots_21 : decode cX10_roots 21 = .ok (.invokevirtual 145, 3) := by decide +kernel
theorem dX10_roots_24 : decode cX10_roots 24 = .ok (.aload_n 0, 1) := by decide +kernel
theorem dX10_roots_25 : decode cX10_roots 25 = .ok (.iload_n 1, 1) := by decide +kernel
theorem dX10_roots_26 : decode cX10_roots 26 = .ok (.bipush 44, 2) := by decide +kernel
theorem dX10_roots_28 : decode cX10_roots 28 = .ok (.iconst 0, 1) := by decide +kernel
theorem dX10_roots_29 : decode cX10_roots 29 = .ok (.invokevirtual 92, 3) := by decide +kernel
theorem dX10_roots_32 : decode cX10_roots 32 = .ok (.aload_n 0, 1) := by decide +kernel
theorem dX10_roots_33 : decode cX10_roots 33 = .ok (.bipush 33, 2) := by decide +kernel
theorem dX10_roots_35 : decode cX10_roots 35 = .ok (.iload_n 1, 1) := by decide +kernel
theorem dX10_roots_36 : decode cX10_roots 36 = .ok (.iload_n 1, 1) := by decide +kernel
theorem dX10_roots_37 : decode cX10_roots 37 = .ok (.invokevirtual 107, 3) := by decide +kernel
theorem dX10_roots_40 : decode cX10_roots 40 = .ok (.aload_n 0, 1) := by decide +kernel
theorem dX10_roots_41 : decode cX10_roots 41 = .ok (.bipush 33, 2) := by decide +kernel
theorem dX10_roots_43 : decode cX10_roots 43 = .ok (.bipush 44, 2) := by decide +kernel
theorem dX10_roots_45 : decode cX10_roots 45 = .ok (.invokevirtual 168, 3) := by decide +kernel
theorem dX10_roots_48 : decode cX10_roots 48 = .ok (.ifCond .eq 5, 3) := by decide +kernel
theorem dX10_roots_51 : decode cX10_roots 51 = .ok (.iconst 1, 1) := by decide +kernel
theorem dX10_roots_52 : decode cX10_roots 52 = .ok (.ireturn, 1) := by decide +kernel
theorem dX10_roots_53 : decode cX10_roots 53 = .ok (.aload_n 0, 1) := by decide +kernel
theorem dX10_roots_54 : decode cX10_roots 54 = .ok (.iload_n 1, 1) := by decide +kernel
theorem dX10_roots_55 : decode cX10_roots 55 = .ok (.iload_n 1, 1) := by decide +kernel
theorem dX10_roots_56 : decode cX10_roots 56 = .ok (.iconst 4, 1) := by decide +kernel
theorem dX10_roots_57 : decode cX10_roots 57 = .ok (.invokevirtual 107, 3) := by decide +kernel
theorem dX10_roots_60 : decode cX10_roots 60 = .ok (.aload_n 0, 1) := by decide +kernel
theorem dX10_roots_61 : decode cX10_roots 61 = .ok (.bipush 33, 2) := by decide +kernel
theorem dX10_roots_63 : decode cX10_roots 63 = .ok (.iload_n 1, 1) := by decide +kernel
theorem dX10_roots_64 : decode cX10_roots 64 = .ok (.iload_n 1, 1) := by decide +kernel
theorem dX10_roots_65 : decode cX10_roots 65 = .ok (.invokevirtual 107, 3) := by decide +kernel
theorem dX10_roots_68 : decode cX10_roots 68 = .ok (.aload_n 0, 1) := by decide +kernel
theorem dX10_roots_69 : decode cX10_roots 69 = .ok (.bipush 33, 2) := by decide +kernel
theorem dX10_roots_71 : decode cX10_roots 71 = .ok (.bipush 44, 2) := by decide +kernel
theorem dX10_roots_73 : decode cX10_roots 73 = .ok (.invokevirtual 168, 3) := by decide +kernel
theorem dX10_roots_76 : decode cX10_roots 76 = .ok (.ireturn, 1) := by decide +kernel
theorem dX10_neutral_0 : decode cX10_neutral 0 = .ok (.aload_n 0, 1) := by decide +kernel
theorem dX10_neutral_1 : decode cX10_neutral 1 = .ok (.iload_n 1, 1) := by decide +kernel
theorem dX10_neutral_2 : decode cX10_neutral 2 = .ok (.lconst 0, 1) := by decide +kernel
theorem dX10_neutral_3 : decode cX10_neutral 3 = .ok (.invokevirtual 82, 3) := by decide +kernel
theorem dX10_neutral_6 : decode cX10_neutral 6 = .ok (.aload_n 0, 1) := by decide +kernel
theorem dX10_neutral_7 : decode cX10_neutral 7 = .ok (.iload_n 1, 1) := by decide +kernel
theorem dX10_neutral_8 : decode cX10_neutral 8 = .ok (.iconst 1, 1) := by decide +kernel
theorem dX10_neutral_9 : decode cX10_neutral 9 = .ok (.iadd, 1) := by decide +kernel
theorem dX10_neutral_10 : decode cX10_neutral 10 = .ok (.lconst 1, 1) := by decide +kernel
theorem dX10_neutral_11 : decode cX10_neutral 11 = .ok (.invokevirtual 82, 3) := by decide +kernel
theorem dX10_neutral_14 : decode cX10_neutral 14 = .ok (.aload_n 0, 1) := by decide +kernel
theorem dX10_neutral_15 : decode cX10_neutral 15 = .ok (.iload_n 1, 1) := by decide +kernel
theorem dX10_neutral_16 : decode cX10_neutral 16 = .ok (.iconst 2, 1) := by decide +kernel
theorem dX10_neutral_17 : decode cX10_neutral 17 = .ok (.iadd, 1) := by decide +kernel
theorem dX10_neutral_18 : decode cX10_neutral 18 = .ok (.lconst 1, 1) := by decide +kernel
theorem dX10_neutral_19 : decode cX10_neutral 19 = .ok (.invokevirtual 82, 3) := by decide +kernel
theorem dX10_neutral_22 : decode cX10_neutral 22 = .ok (.aload_n 0, 1) := by decide +kernel
theorem dX10_neutral_23 : decode cX10_neutral 23 = .ok (.iload_n 1, 1) := by decide +kernel
theorem dX10_neutral_24 : decode cX10_neutral 24 = .ok (.iconst 3, 1) := by decide +kernel
theorem dX10_neutral_25 : decode cX10_neutral 25 = .ok (.iadd, 1) := by decide +kernel
theorem dX10_neutral_26 : decode cX10_neutral 26 = .ok (.lconst 0, 1) := by decide +kernel
theorem dX10_neutral_27 : decode cX10_neutral 27 = .ok (.invokevirtual 82, 3) := by decide +kernel
theorem dX10_neutral_30 : decode cX10_neutral 30 = .ok (.return_, 1) := by decide +kernel
theorem dX10_addPoint_0 : decode cX10_addPoint 0 = .ok (.aload_n 0, 1) := by decide +kernel
theorem dX10_addPoint_1 : decode cX10_addPoint 1 = .ok (.bipush 26, 2) := by decide +kernel
theorem dX10_addPoint_3 : decode cX10_addPoint 3 = .ok (.iload_n 1, 1) := by decide +kernel
theorem dX10_addPoint_4 : decode cX10_addPoint 4 = .ok (.iconst 1, 1) := by decide +kernel
theorem dX10_addPoint_5 : decode cX10_addPoint 5 = .ok (.iadd, 1) := by decide +kernel
theorem dX10_addPoint_6 : decode cX10_addPoint 6 = .ok (.iload_n 1, 1) := by decide +kernel
theorem dX10_addPoint_7 : decode cX10_addPoint 7 = .ok (.invokevirtual 98, 3) := by decide +kernel
theorem dX10_addPoint_10 : decode cX10_addPoint 10 = .ok (.aload_n 0, 1) := by decide +kernel
theorem dX10_addPoint_11 : decode cX10_addPoint 11 = .ok (.bipush 27, 2) := by decide +kernel
theorem dX10_addPoint_13 : decode cX10_addPoint 13 = .ok (.iload_n 2, 1) := by decide +kernel
theorem dX10_addPoint_14 : decode cX10_addPoint 14 = .ok (.iconst 1, 1) := by decide +kernel
theorem dX10_addPoint_15 : decode cX10_addPoint 15 = .ok (.iadd, 1) := by decide +kernel
theorem dX10_addPoint_16 : decode cX10_addPoint 16 = .ok (.iload_n 2, 1) := by decide +kernel
theorem dX10_addPoint_17 : decode cX10_addPoint 17 = .ok (.invokevirtual 98, 3) := by decide +kernel
theorem dX10_addPoint_20 : decode cX10_addPoint 20 = .ok (.aload_n 0, 1) := by decide +kernel
theorem dX10_addPoint_21 : decode cX10_addPoint 21 = .ok (.bipush 26, 2) := by decide +kernel
theorem dX10_addPoint_23 : decode cX10_addPoint 23 = .ok (.bipush 26, 2) := by decide +kernel
theorem dX10_addPoint_25 : decode cX10_addPoint 25 = .ok (.bipush 27, 2) := by decide +kernel
theorem dX10_addPoint_27 : decode cX10_addPoint 27 = .ok (.invokevirtual 107, 3) := by decide +kernel
theorem dX10_addPoint_30 : decode cX10_addPoint 30 = .ok (.aload_n 0, 1) := by decide +kernel
theorem dX10_addPoint_31 : decode cX10_addPoint 31 = .ok (.bipush 27, 2) := by decide +kernel
theorem dX10_addPoint_33 : decode cX10_addPoint 33 = .ok (.iload_n 1, 1) := by decide +kernel
theorem dX10_addPoint_34 : decode cX10_addPoint 34 = .ok (.iload_n 1, 1) := by decide +kernel
theorem dX10_addPoint_35 : decode cX10_addPoint 35 = .ok (.iconst 1, 1) := by decide +kernel
theorem dX10_addPoint_36 : decode cX10_addPoint 36 = .ok (.iadd, 1) := by decide +kernel
theorem dX10_addPoint_37 : decode cX10_addPoint 37 = .ok (.invokevirtual 110, 3) := by decide +kernel
theorem dX10_addPoint_40 : decode cX10_addPoint 40 = .ok (.aload_n 0, 1) := by decide +kernel
theorem dX10_addPoint_41 : decode cX10_addPoint 41 = .ok (.bipush 28, 2) := by decide +kernel
theorem dX10_addPoint_43 : decode cX10_addPoint 43 = .ok (.iload_n 2, 1) := by decide +kernel
theorem dX10_addPoint_44 : decode cX10_addPoint 44 = .ok (.iload_n 2, 1) := by decide +kernel
theorem dX10_addPoint_45 : decode cX10_addPoint 45 = .ok (.iconst 1, 1) := by decide +kernel
theorem dX10_addPoint_46 : decode cX10_addPoint 46 = .ok (.iadd, 1) := by decide +kernel
theorem dX10_addPoint_47 : decode cX10_addPoint 47 = .ok (.invokevirtual 110, 3) := by decide +kernel
theorem dX10_addPoint_50 : decode cX10_addPoint 50 = .ok (.aload_n 0, 1) := by decide +kernel
theorem dX10_addPoint_51 : decode cX10_addPoint 51 = .ok (.bipush 27, 2) := by decide +kernel
theorem dX10_addPoint_53 : decode cX10_addPoint 53 = .ok (.bipush 27, 2) := by decide +kernel
theorem dX10_addPoint_55 : decode cX10_addPoint 55 = .ok (.bipush 28, 2) := by decide +kernel
theorem dX10_addPoint_57 : decode cX10_addPoint 57 = .ok (.invokevirtual 107, 3) := by decide +kernel
theorem dX10_addPoint_60 : decode cX10_addPoint 60 = .ok (.aload_n 0, 1) := by decide +kernel
theorem dX10_addPoint_61 : decode cX10_addPoint 61 = .ok (.bipush 28, 2) := by decide +kernel
theorem dX10_addPoint_63 : decode cX10_addPoint 63 = .ok (.iload_n 1, 1) := by decide +kernel
theorem dX10_addPoint_64 : decode cX10_addPoint 64 = .ok (.iconst 3, 1) := by decide +kernel
theorem dX10_addPoint_65 : decode cX10_addPoint 65 = .ok (.iadd, 1) := by decide +kernel
theorem dX10_addPoint_66 : decode cX10_addPoint 66 = .ok (.iload_n 2, 1) := by decide +kernel
theorem dX10_addPoint_67 : decode cX10_addPoint 67 = .ok (.iconst 3, 1) := by decide +kernel
theorem dX10_addPoint_68 : decode cX10_addPoint 68 = .ok (.iadd, 1) := by decide +kernel
theorem dX10_addPoint_69 : decode cX10_addPoint 69 = .ok (.invokevirtual 107, 3) := by decide +kernel
theorem dX10_addPoint_72 : decode cX10_addPoint 72 = .ok (.aload_n 0, 1) := by decide +kernel
theorem dX10_addPoint_73 : decode cX10_addPoint 73 = .ok (.bipush 28, 2) := by decide +kernel
theorem dX10_addPoint_75 : decode cX10_addPoint 75 = .ok (.bipush 28, 2) := by decide +kernel
theorem dX10_addPoint_77 : decode cX10_addPoint 77 = .ok (.iconst 3, 1) := by decide +kernel
theorem dX10_addPoint_78 : decode cX10_addPoint 78 = .ok (.invokevirtual 107, 3) := by decide +kernel
theorem dX10_addPoint_81 : decode cX10_addPoint 81 = .ok (.aload_n 0, 1) := by decide +kernel
theorem dX10_addPoint_82 : decode cX10_addPoint 82 = .ok (.bipush 29, 2) := by decide +kernel
theorem dX10_addPoint_84 : decode cX10_addPoint 84 = .ok (.iload_n 1, 1) := by decide +kernel
theorem dX10_addPoint_85 : decode cX10_addPoint 85 = .ok (.iconst 2, 1) := by decide +kernel
theorem dX10_addPoint_86 : decode cX10_addPoint 86 = .ok (.iadd, 1) := by decide +kernel
theorem dX10_addPoint_87 : decode cX10_addPoint 87 = .ok (.iload_n 2, 1) := by decide +kernel
theorem dX10_addPoint_88 : decode cX10_addPoint 88 = .ok (.iconst 2, 1) := by decide +kernel
theorem dX10_addPoint_89 : decode cX10_addPoint 89 = .ok (.iadd, 1) := by decide +kernel
theorem dX10_addPoint_90 : decode cX10_addPoint 90 = .ok (.invokevirtual 107, 3) := by decide +kernel
theorem dX10_addPoint_93 : decode cX10_addPoint 93 = .ok (.aload_n 0, 1) := by decide +kernel
theorem dX10_addPoint_94 : decode cX10_addPoint 94 = .ok (.bipush 29, 2) := by decide +kernel
theorem dX10_addPoint_96 : decode cX10_addPoint 96 = .ok (.bipush 29, 2) := by decide +kernel
theorem dX10_addPoint_98 : decode cX10_addPoint 98 = .ok (.bipush 29, 2) := by decide +kernel
theorem dX10_addPoint_100 : decode cX10_addPoint 100 = .ok (.invokevirtual 110, 3) := by decide +kernel
theorem dX10_addPoint_103 : decode cX10_addPoint 103 = .ok (.aload_n 0, 1) := by decide +kernel
theorem dX10_addPoint_104 : decode cX10_addPoint 104 = .ok (.bipush 30, 2) := by decide +kernel
theorem dX10_addPoint_106 : decode cX10_addPoint 106 = .ok (.bipush 27, 2) := by decide +kernel
theorem dX10_addPoint_108 : decode cX10_addPoint 108 = .ok (.bipush 26, 2) := by decide +kernel
theorem dX10_addPoint_110 : decode cX10_addPoint 110 = .ok (.invokevirtual 98, 3) := by decide +kernel
theorem dX10_addPoint_113 : decode cX10_addPoint 113 = .ok (.aload_n 0, 1) := by decide +kernel
theorem dX10_addPoint_114 : decode cX10_addPoint 114 = .ok (.bipush 31, 2) := by decide +kernel
theorem dX10_addPoint_116 : decode cX10_addPoint 116 = .ok (.bipush 29, 2) := by decide +kernel
theorem dX10_addPoint_118 : decode cX10_addPoint 118 = .ok (.bipush 28, 2) := by decide +kernel
theorem dX10_addPoint_120 : decode cX10_addPoint 120 = .ok (.invokevirtual 98, 3) := by decide +kernel
theorem dX10_addPoint_123 : decode cX10_addPoint 123 = .ok (.aload_n 0, 1) := by decide +kernel
theorem dX10_addPoint_124 : decode cX10_addPoint 124 = .ok (.bipush 32, 2) := by decide +kernel
theorem dX10_addPoint_126 : decode cX10_addPoint 126 = .ok (.bipush 29, 2) := by decide +kernel
theorem dX10_addPoint_128 : decode cX10_addPoint 128 = .ok (.bipush 28, 2) := by decide +kernel
theorem dX10_addPoint_130 : decode cX10_addPoint 130 = .ok (.invokevirtual 110, 3) := by decide +kernel
theorem dX10_addPoint_133 : decode cX10_addPoint 133 = .ok (.aload_n 0, 1) := by decide +kernel
theorem dX10_addPoint_134 : decode cX10_addPoint 134 = .ok (.bipush 33, 2) := by decide +kernel
theorem dX10_addPoint_136 : decode cX10_addPoint 136 = .ok (.bipush 27, 2) := by decide +kernel
theorem dX10_addPoint_138 : decode cX10_addPoint 138 = .ok (.bipush 26, 2) := by decide +kernel
theorem dX10_addPoint_140 : decode cX10_addPoint 140 = .ok (.invokevirtual 110, 3) := by decide +kernel
theorem dX10_addPoint_143 : decode cX10_addPoint 143 = .ok (.aload_n 0, 1) := by decide +kernel
theorem dX10_addPoint_144 : decode cX10_addPoint 144 = .ok (.iload_n 1, 1) := by decide +kernel
theorem dX10_addPoint_145 : decode cX10_addPoint 145 = .ok (.bipush 30, 2) := by decide +kernel
theorem dX10_addPoint_147 : decode cX10_addPoint 147 = .ok (.bipush 31, 2) := by decide +kernel
theorem dX10_addPoint_149 : decode cX10_addPoint 149 = .ok (.invokevirtual 107, 3) := by decide +kernel
theorem dX10_addPoint_152 : decode cX10_addPoint 152 = .ok (.aload_n 0, 1) := by decide +kernel
theorem dX10_addPoint_153 : decode cX10_addPoint 153 = .ok (.iload_n 1, 1) := by decide +kernel
theorem dX10_addPoint_154 : decode cX10_addPoint 154 = .ok (.iconst 1, 1) := by decide +kernel
theorem dX10_addPoint_155 : decode cX10_addPoint 155 = .ok (.iadd, 1) := by decide +kernel
theorem dX10_addPoint_156 : decode cX10_addPoint 156 = .ok (.bipush 33, 2) := by decide +kernel
theorem dX10_addPoint_158 : decode cX10_addPoint 158 = .ok (.bipush 32, 2) := by decide +kernel
theorem dX10_addPoint_160 : decode cX10_addPoint 160 = .ok (.invokevirtual 107, 3) := by decide +kernel
theorem dX10_addPoint_163 : decode cX10_addPoint 163 = .ok (.aload_n 0, 1) := by decide +kernel
theorem dX10_addPoint_164 : decode cX10_addPoint 164 = .ok (.iload_n 1, 1) := by decide +kernel
theorem dX10_addPoint_165 : decode cX10_addPoint 165 = .ok (.iconst 2, 1) := by decide +kernel
theorem dX10_addPoint_166 : decode cX10_addPoint 166 = .ok (.iadd, 1) := by decide +kernel
theorem dX10_addPoint_167 : decode cX10_addPoint 167 = .ok (.bipush 32, 2) := by decide +kernel
theorem dX10_addPoint_169 : decode cX10_addPoint 169 = .ok (.bipush 31, 2) := by decide +kernel
theorem dX10_addPoint_171 : decode cX10_addPoint 171 = .ok (.invokevirtual 107, 3) := by decide +kernel
theorem dX10_addPoint_174 : decode cX10_addPoint 174 = .ok (.aload_n 0, 1) := by decide +kernel
theorem dX10_addPoint_175 : decode cX10_addPoint 175 = .ok (.iload_n 1, 1) := by decide +kernel
theorem dX10_addPoint_176 : decode cX10_addPoint 176 = .ok (.iconst 3, 1) := by decide +kernel
theorem dX10_addPoint_177 : decode cX10_addPoint 177 = .ok (.iadd, 1) := by decide +kernel
theorem dX10_addPoint_178 : decode cX10_addPoint 178 = .ok (.bipush 30, 2) := by decide +kernel
theorem dX10_addPoint_180 : decode cX10_addPoint 180 = .ok (.bipush 33, 2) := by decide +kernel
theorem dX10_addPoint_182 : decode cX10_addPoint 182 = .ok (.invokevirtual 107, 3) := by decide +kernel
theorem dX10_addPoint_185 : decode cX10_addPoint 185 = .ok (.return_, 1) := by decide +kernel
theorem dX10_many_0 : decode cX10_many 0 = .ok (.aload_n 0, 1) := by decide +kernel
theorem dX10_many_1 : decode cX10_many 1 = .ok (.iload_n 1, 1) := by decide +kernel
theorem dX10_many_2 : decode cX10_many 2 = .ok (.invokevirtual 171, 3) := by decide +kernel
theorem dX10_many_5 : decode cX10_many 5 = .ok (.sipush 255, 3) := by decide +kernel
theorem dX10_many_8 : decode cX10_many 8 = .ok (.istore 4, 2) := by decide +kernel
theorem dX10_many_10 : decode cX10_many 10 = .ok (.iload 4, 2) := by decide +kernel
theorem dX10_many_12 : decode cX10_many 12 = .ok (.ifCond .lt 32, 3) := by decide +kernel
theorem dX10_many_15 : decode cX10_many 15 = .ok (.aload_n 0, 1) := by decide +kernel
theorem dX10_many_16 : decode cX10_many 16 = .ok (.iload_n 1, 1) := by decide +kernel
theorem dX10_many_17 : decode cX10_many 17 = .ok (.iload_n 1, 1) := by decide +kernel
theorem dX10_many_18 : decode cX10_many 18 = .ok (.invokevirtual 174, 3) := by decide +kernel
theorem dX10_many_21 : decode cX10_many 21 = .ok (.aload_n 0, 1) := by decide +kernel
theorem dX10_many_22 : decode cX10_many 22 = .ok (.iload_n 3, 1) := by decide +kernel
theorem dX10_many_23 : decode cX10_many 23 = .ok (.iload 4, 2) := by decide +kernel
theorem dX10_many_25 : decode cX10_many 25 = .ok (.invokevirtual 148, 3) := by decide +kernel
theorem dX10_many_28 : decode cX10_many 28 = .ok (.iconst 1, 1) := by decide +kernel
theorem dX10_many_29 : decode cX10_many 29 = .ok (.if_icmp .ne 9, 3) := by decide +kernel
theorem dX10_many_32 : decode cX10_many 32 = .ok (.aload_n 0, 1) := by decide +kernel
theorem dX10_many_33 : decode cX10_many 33 = .ok (.iload_n 1, 1) := by decide +kernel
theorem dX10_many_34 : decode cX10_many 34 = .ok (.iload_n 2, 1) := by decide +kernel
theorem dX10_many_35 : decode cX10_many 35 = .ok (.invokevirtual 174, 3) := by decide +kernel
theorem dX10_many_38 : decode cX10_many 38 = .ok (.iinc 4 (-1), 3) := by decide +kernel
theorem dX10_many_41 : decode cX10_many 41 = .ok (.goto (-31), 3) := by decide +kernel
theorem dX10_many_44 : decode cX10_many 44 = .ok (.return_, 1) := by decide +kernel
theorem dX10_bytes_0 : decode cX10_bytes 0 = .ok (.aload_n 0, 1) := by decide +kernel
theorem dX10_bytes_1 : decode cX10_bytes 1 = .ok (.bipush 41, 2) := by decide +kernel
theorem dX10_bytes_3 : decode cX10_bytes 3 = .ok (.iload_n 2, 1) := by decide +kernel
theorem dX10_bytes_4 : decode cX10_bytes 4 = .ok (.iconst 2, 1) := by decide +kernel
theorem dX10_bytes_5 : decode cX10_bytes 5 = .ok (.iadd, 1) := by decide +kernel
theorem dX10_bytes_6 : decode cX10_bytes 6 = .ok (.invokevirtual 103, 3) := by decide +kernel
theorem dX10_bytes_9 : decode cX10_bytes 9 = .ok (.aload_n 0, 1) := by decide +kernel
theorem dX10_bytes_10 : decode cX10_bytes 10 = .ok (.bipush 42, 2) := by decide +kernel
theorem dX10_bytes_12 : decode cX10_bytes 12 = .ok (.iload_n 2, 1) := by decide +kernel
theorem dX10_bytes_13 : decode cX10_bytes 13 = .ok (.bipush 41, 2) := by decide +kernel
theorem dX10_bytes_15 : decode cX10_bytes 15 = .ok (.invokevirtual 107, 3) := by decide +kernel
theorem dX10_bytes_18 : decode cX10_bytes 18 = .ok (.aload_n 0, 1) := by decide +kernel
theorem dX10_bytes_19 : decode cX10_bytes 19 = .ok (.bipush 43, 2) := by decide +kernel
theorem dX10_bytes_21 : decode cX10_bytes 21 = .ok (.iload_n 2, 1) := by decide +kernel
theorem dX10_bytes_22 : decode cX10_bytes 22 = .ok (.iconst 1, 1) := by decide +kernel
theorem dX10_bytes_23 : decode cX10_bytes 23 = .ok (.iadd, 1) := by decide +kernel
theorem dX10_bytes_24 : decode cX10_bytes 24 = .ok (.bipush 41, 2) := by decide +kernel
theorem dX10_bytes_26 : decode cX10_bytes 26 = .ok (.invokevirtual 107, 3) := by decide +kernel
theorem dX10_bytes_29 : decode cX10_bytes 29 = .ok (.aload_n 0, 1) := by decide +kernel
theorem dX10_bytes_30 : decode cX10_bytes 30 = .ok (.bipush 42, 2) := by decide +kernel
theorem dX10_bytes_32 : decode cX10_bytes 32 = .ok (.invokevirtual 177, 3) := by decide +kernel
theorem dX10_bytes_35 : decode cX10_bytes 35 = .ok (.i2l, 1) := by decide +kernel
theorem dX10_bytes_36 : decode cX10_bytes 36 = .ok (.lstore_n 3, 1) := by decide +kernel
theorem dX10_bytes_37 : decode cX10_bytes 37 = .ok (.aload_n 0, 1) := by decide +kernel
theorem dX10_bytes_38 : decode cX10_bytes 38 = .ok (.iload_n 1, 1) := by decide +kernel
theorem dX10_bytes_39 : decode cX10_bytes 39 = .ok (.bipush 43, 2) := by decide +kernel
theorem dX10_bytes_41 : decode cX10_bytes 41 = .ok (.invokevirtual 121, 3) := by decide +kernel
theorem dX10_bytes_44 : decode cX10_bytes 44 = .ok (.aload_n 0, 1) := by decide +kernel
theorem dX10_bytes_45 : decode cX10_bytes 45 = .ok (.getfield 27, 3) := by decide +kernel
theorem dX10_bytes_48 : decode cX10_bytes 48 = .ok (.iload_n 1, 1) := by decide +kernel
theorem dX10_bytes_49 : decode cX10_bytes 49 = .ok (.iconst 3, 1) := by decide +kernel
theorem dX10_bytes_50 : decode cX10_bytes 50 = .ok (.iadd, 1) := by decide +kernel
theorem dX10_bytes_51 : decode cX10_bytes 51 = .ok (.dup2, 1) := by decide +kernel
theorem dX10_bytes_52 : decode cX10_bytes 52 = .ok (.laload, 1) := by decide +kernel
theorem dX10_bytes_53 : decode cX10_bytes 53 = .ok (.lload_n 3, 1) := by decide +kernel
theorem dX10_bytes_54 : decode cX10_bytes 54 = .ok (.bipush 63, 2) := by decide +kernel
theorem dX10_bytes_56 : decode cX10_bytes 56 = .ok (.lshl, 1) := by decide +kernel
theorem dX10_bytes_57 : decode cX10_bytes 57 = .ok (.lor, 1) := by decide +kernel
theorem dX10_bytes_58 : decode cX10_bytes 58 = .ok (.lastore, 1) := by decide +kernel
theorem dX10_bytes_59 : decode cX10_bytes 59 = .ok (.return_, 1) := by decide +kernel
theorem dX10_open_0 : decode cX10_open 0 = .ok (.aload_n 0, 1) := by decide +kernel
theorem dX10_open_1 : decode cX10_open 1 = .ok (.bipush 12, 2) := by decide +kernel
theorem dX10_open_3 : decode cX10_open 3 = .ok (.aload_n 0, 1) := by decide +kernel
theorem dX10_open_4 : decode cX10_open 4 = .ok (.getfield 27, 3) := by decide +kernel
theorem dX10_open_7 : decode cX10_open 7 = .ok (.iload_n 2, 1) := by decide +kernel
theorem dX10_open_8 : decode cX10_open 8 = .ok (.laload, 1) := by decide +kernel
theorem dX10_open_9 : decode cX10_open 9 = .ok (.aload_n 0, 1) := by decide +kernel
theorem dX10_open_10 : decode cX10_open 10 = .ok (.getfield 27, 3) := by decide +kernel
theorem dX10_open_13 : decode cX10_open 13 = .ok (.iload_n 2, 1) := by decide +kernel
theorem dX10_open_14 : decode cX10_open 14 = .ok (.iconst 1, 1) := by decide +kernel
theorem dX10_open_15 : decode cX10_open 15 = .ok (.iadd, 1) := by decide +kernel
theorem dX10_open_16 : decode cX10_open 16 = .ok (.laload, 1) := by decide +kernel
theorem dX10_open_17 : decode cX10_open 17 = .ok (.aload_n 0, 1) := by decide +kernel
theorem dX10_open_18 : decode cX10_open 18 = .ok (.getfield 27, 3) := by decide +kernel
theorem dX10_open_21 : decode cX10_open 21 = .ok (.iload_n 2, 1) := by decide +kernel
theorem dX10_open_22 : decode cX10_open 22 = .ok (.iconst 2, 1) := by decide +kernel
theorem dX10_open_23 : decode cX10_open 23 = .ok (.iadd, 1) := by decide +kernel
theorem dX10_open_24 : decode cX10_open 24 = .ok (.laload, 1) := by decide +kernel
theorem dX10_open_25 : decode cX10_open 25 = .ok (.aload_n 0, 1) := by decide +kernel
theorem dX10_open_26 : decode cX10_open 26 = .ok (.getfield 27, 3) := by decide +kernel
theorem dX10_open_29 : decode cX10_open 29 = .ok (.iload_n 2, 1) := by decide +kernel
theorem dX10_open_30 : decode cX10_open 30 = .ok (.iconst 3, 1) := by decide +kernel
theorem dX10_open_31 : decode cX10_open 31 = .ok (.iadd, 1) := by decide +kernel
theorem dX10_open_32 : decode cX10_open 32 = .ok (.laload, 1) := by decide +kernel
theorem dX10_open_33 : decode cX10_open 33 = .ok (.invokevirtual 72, 3) := by decide +kernel
theorem dX10_open_36 : decode cX10_open 36 = .ok (.aload_n 0, 1) := by decide +kernel
theorem dX10_open_37 : decode cX10_open 37 = .ok (.getfield 27, 3) := by decide +kernel
theorem dX10_open_40 : decode cX10_open 40 = .ok (.bipush 15, 2) := by decide +kernel
theorem dX10_open_42 : decode cX10_open 42 = .ok (.laload, 1) := by decide +kernel
theorem dX10_open_43 : decode cX10_open 43 = .ok (.bipush 63, 2) := by decide +kernel
theorem dX10_open_45 : decode cX10_open 45 = .ok (.lushr, 1) := by decide +kernel
theorem dX10_open_46 : decode cX10_open 46 = .ok (.lstore_n 3, 1) := by decide +kernel
theorem dX10_open_47 : decode cX10_open 47 = .ok (.aload_n 0, 1) := by decide +kernel
theorem dX10_open_48 : decode cX10_open 48 = .ok (.getfield 27, 3) := by decide +kernel
theorem dX10_open_51 : decode cX10_open 51 = .ok (.bipush 15, 2) := by decide +kernel
theorem dX10_open_53 : decode cX10_open 53 = .ok (.dup2, 1) := by decide +kernel
theorem dX10_open_54 : decode cX10_open 54 = .ok (.laload, 1) := by decide +kernel
theorem dX10_open_55 : decode cX10_open 55 = .ok (.ldc2_w 70, 3) := by decide +kernel
theorem dX10_open_58 : decode cX10_open 58 = .ok (.land, 1) := by decide +kernel
theorem dX10_open_59 : decode cX10_open 59 = .ok (.lastore, 1) := by decide +kernel
theorem dX10_open_60 : decode cX10_open 60 = .ok (.aload_n 0, 1) := by decide +kernel
theorem dX10_open_61 : decode cX10_open 61 = .ok (.bipush 12, 2) := by decide +kernel
theorem dX10_open_63 : decode cX10_open 63 = .ok (.bipush 36, 2) := by decide +kernel
theorem dX10_open_65 : decode cX10_open 65 = .ok (.invokevirtual 161, 3) := by decide +kernel
theorem dX10_open_68 : decode cX10_open 68 = .ok (.ifCond .lt 5, 3) := by decide +kernel
theorem dX10_open_71 : decode cX10_open 71 = .ok (.iconst 0, 1) := by decide +kernel
theorem dX10_open_72 : decode cX10_open 72 = .ok (.ireturn, 1) := by decide +kernel
theorem dX10_open_73 : decode cX10_open 73 = .ok (.aload_n 0, 1) := by decide +kernel
theorem dX10_open_74 : decode cX10_open 74 = .ok (.iload_n 1, 1) := by decide +kernel
theorem dX10_open_75 : decode cX10_open 75 = .ok (.iconst 1, 1) := by decide +kernel
theorem dX10_open_76 : decode cX10_open 76 = .ok (.iadd, 1) := by decide +kernel
theorem dX10_open_77 : decode cX10_open 77 = .ok (.bipush 12, 2) := by decide +kernel
theorem dX10_open_79 : decode cX10_open 79 = .ok (.invokevirtual 181, 3) := by decide +kernel
theorem dX10_open_82 : decode cX10_open 82 = .ok (.aload_n 0, 1) := by decide +kernel
theorem dX10_open_83 : decode cX10_open 83 = .ok (.bipush 41, 2) := by decide +kernel
theorem dX10_open_85 : decode cX10_open 85 = .ok (.iload_n 1, 1) := by decide +kernel
theorem dX10_open_86 : decode cX10_open 86 = .ok (.iconst 1, 1) := by decide +kernel
theorem dX10_open_87 : decode cX10_open 87 = .ok (.iadd, 1) := by decide +kernel
theorem dX10_open_88 : decode cX10_open 88 = .ok (.iload_n 1, 1) := by decide +kernel
theorem dX10_open_89 : decode cX10_open 89 = .ok (.iconst 1, 1) := by decide +kernel
theorem dX10_open_90 : decode cX10_open 90 = .ok (.iadd, 1) := by decide +kernel
theorem dX10_open_91 : decode cX10_open 91 = .ok (.invokevirtual 107, 3) := by decide +kernel
theorem dX10_open_94 : decode cX10_open 94 = .ok (.aload_n 0, 1) := by decide +kernel
theorem dX10_open_95 : decode cX10_open 95 = .ok (.bipush 42, 2) := by decide +kernel
theorem dX10_open_97 : decode cX10_open 97 = .ok (.bipush 41, 2) := by decide +kernel
theorem dX10_open_99 : decode cX10_open 99 = .ok (.iconst 2, 1) := by decide +kernel
theorem dX10_open_100 : decode cX10_open 100 = .ok (.invokevirtual 107, 3) := by decide +kernel
theorem dX10_open_103 : decode cX10_open 103 = .ok (.aload_n 0, 1) := by decide +kernel
theorem dX10_open_104 : decode cX10_open 104 = .ok (.bipush 42, 2) := by decide +kernel
theorem dX10_open_106 : decode cX10_open 106 = .ok (.bipush 42, 2) := by decide +kernel
theorem dX10_open_108 : decode cX10_open 108 = .ok (.iconst 1, 1) := by decide +kernel
theorem dX10_open_109 : decode cX10_open 109 = .ok (.invokevirtual 110, 3) := by decide +kernel
theorem dX10_open_112 : decode cX10_open 112 = .ok (.aload_n 0, 1) := by decide +kernel
theorem dX10_open_113 : decode cX10_open 113 = .ok (.bipush 43, 2) := by decide +kernel
theorem dX10_open_115 : decode cX10_open 115 = .ok (.bipush 41, 2) := by decide +kernel
theorem dX10_open_117 : decode cX10_open 117 = .ok (.iconst 1, 1) := by decide +kernel
theorem dX10_open_118 : decode cX10_open 118 = .ok (.invokevirtual 98, 3) := by decide +kernel
theorem dX10_open_121 : decode cX10_open 121 = .ok (.aload_n 0, 1) := by decide +kernel
theorem dX10_open_122 : decode cX10_open 122 = .ok (.bipush 41, 2) := by decide +kernel
theorem dX10_open_124 : decode cX10_open 124 = .ok (.bipush 42, 2) := by decide +kernel
theorem dX10_open_126 : decode cX10_open 126 = .ok (.invokevirtual 103, 3) := by decide +kernel
theorem dX10_open_129 : decode cX10_open 129 = .ok (.aload_n 0, 1) := by decide +kernel
theorem dX10_open_130 : decode cX10_open 130 = .ok (.bipush 43, 2) := by decide +kernel
theorem dX10_open_132 : decode cX10_open 132 = .ok (.bipush 43, 2) := by decide +kernel
theorem dX10_open_134 : decode cX10_open 134 = .ok (.bipush 41, 2) := by decide +kernel
theorem dX10_open_136 : decode cX10_open 136 = .ok (.invokevirtual 107, 3) := by decide +kernel
theorem dX10_open_139 : decode cX10_open 139 = .ok (.aload_n 0, 1) := by decide +kernel
theorem dX10_open_140 : decode cX10_open 140 = .ok (.iload_n 1, 1) := by decide +kernel
theorem dX10_open_141 : decode cX10_open 141 = .ok (.bipush 43, 2) := by decide +kernel
theorem dX10_open_143 : decode cX10_open 143 = .ok (.invokevirtual 184, 3) := by decide +kernel
theorem dX10_open_146 : decode cX10_open 146 = .ok (.ifCond .ne 5, 3) := by decide +kernel
theorem dX10_open_149 : decode cX10_open 149 = .ok (.iconst 0, 1) := by decide +kernel
theorem dX10_open_150 : decode cX10_open 150 = .ok (.ireturn, 1) := by decide +kernel
theorem dX10_open_151 : decode cX10_open 151 = .ok (.aload_n 0, 1) := by decide +kernel
theorem dX10_open_152 : decode cX10_open 152 = .ok (.iload_n 1, 1) := by decide +kernel
theorem dX10_open_153 : decode cX10_open 153 = .ok (.iconst 0, 1) := by decide +kernel
theorem dX10_open_154 : decode cX10_open 154 = .ok (.invokevirtual 168, 3) := by decide +kernel
theorem dX10_open_157 : decode cX10_open 157 = .ok (.ifCond .eq 11, 3) := by decide +kernel
theorem dX10_open_160 : decode cX10_open 160 = .ok (.lload_n 3, 1) := by decide +kernel
theorem dX10_open_161 : decode cX10_open 161 = .ok (.lconst 1, 1) := by decide +kernel
theorem dX10_open_162 : decode cX10_open 162 = .ok (.lcmp, 1) := by decide +kernel
theorem dX10_open_163 : decode cX10_open 163 = .ok (.ifCond .ne 5, 3) := by decide +kernel
theorem dX10_open_166 : decode cX10_open 166 = .ok (.iconst 0, 1) := by decide +kernel
theorem dX10_open_167 : decode cX10_open 167 = .ok (.ireturn, 1) := by decide +kernel
theorem dX10_open_168 : decode cX10_open 168 = .ok (.aload_n 0, 1) := by decide +kernel
theorem dX10_open_169 : decode cX10_open 169 = .ok (.iload_n 1, 1) := by decide +kernel
theorem dX10_open_170 : decode cX10_open 170 = .ok (.invokevirtual 177, 3) := by decide +kernel
theorem dX10_open_173 : decode cX10_open 173 = .ok (.i2l, 1) := by decide +kernel
theorem dX10_open_174 : decode cX10_open 174 = .ok (.lload_n 3, 1) := by decide +kernel
theorem dX10_open_175 : decode cX10_open 175 = .ok (.lcmp, 1) := by decide +kernel
theorem dX10_open_176 : decode cX10_open 176 = .ok (.ifCond .eq 15, 3) := by decide +kernel
theorem dX10_open_179 : decode cX10_open 179 = .ok (.aload_n 0, 1) := by decide +kernel
theorem dX10_open_180 : decode cX10_open 180 = .ok (.iload_n 1, 1) := by decide +kernel
theorem dX10_open_181 : decode cX10_open 181 = .ok (.iconst 0, 1) := by decide +kernel
theorem dX10_open_182 : decode cX10_open 182 = .ok (.iload_n 1, 1) := by decide +kernel
theorem dX10_open_183 : decode cX10_open 183 = .ok (.invokevirtual 98, 3) := by decide +kernel
theorem dX10_open_186 : decode cX10_open 186 = .ok (.aload_n 0, 1) := by decide +kernel
theorem dX10_open_187 : decode cX10_open 187 = .ok (.iload_n 1, 1) := by decide +kernel
theorem dX10_open_188 : decode cX10_open 188 = .ok (.invokevirtual 113, 3) := by decide +kernel
theorem dX10_open_191 : decode cX10_open 191 = .ok (.aload_n 0, 1) := by decide +kernel
theorem dX10_open_192 : decode cX10_open 192 = .ok (.iload_n 1, 1) := by decide +kernel
theorem dX10_open_193 : decode cX10_open 193 = .ok (.iconst 2, 1) := by decide +kernel
theorem dX10_open_194 : decode cX10_open 194 = .ok (.iadd, 1) := by decide +kernel
theorem dX10_open_195 : decode cX10_open 195 = .ok (.lconst 1, 1) := by decide +kernel
theorem dX10_open_196 : decode cX10_open 196 = .ok (.invokevirtual 82, 3) := by decide +kernel
theorem dX10_open_199 : decode cX10_open 199 = .ok (.aload_n 0, 1) := by decide +kernel
theorem dX10_open_200 : decode cX10_open 200 = .ok (.iload_n 1, 1) := by decide +kernel
theorem dX10_open_201 : decode cX10_open 201 = .ok (.iconst 3, 1) := by decide +kernel
theorem dX10_open_202 : decode cX10_open 202 = .ok (.iadd, 1) := by decide +kernel
theorem dX10_open_203 : decode cX10_open 203 = .ok (.iload_n 1, 1) := by decide +kernel
theorem dX10_open_204 : decode cX10_open 204 = .ok (.iload_n 1, 1) := by decide +kernel
theorem dX10_open_205 : decode cX10_open 205 = .ok (.iconst 1, 1) := by decide +kernel
theorem dX10_open_206 : decode cX10_open 206 = .ok (.iadd, 1) := by decide +kernel
theorem dX10_open_207 : decode cX10_open 207 = .ok (.invokevirtual 107, 3) := by decide +kernel
theorem dX10_open_210 : decode cX10_open 210 = .ok (.iconst 1, 1) := by decide +kernel
theorem dX10_open_211 : decode cX10_open 211 = .ok (.ireturn, 1) := by decide +kernel
theorem dX10_isNeutral_0 : decode cX10_isNeutral 0 = .ok (.aload_n 0, 1) := by decide +kernel
theorem dX10_isNeutral_1 : decode cX10_isNeutral 1 = .ok (.iload_n 1, 1) := by decide +kernel
theorem dX10_isNeutral_2 : decode cX10_isNeutral 2 = .ok (.iconst 0, 1) := by decide +kernel
theorem dX10_isNeutral_3 : decode cX10_isNeutral 3 = .ok (.invokevirtual 168, 3) := by decide +kernel
theorem dX10_isNeutral_6 : decode cX10_isNeutral 6 = .ok (.ifCond .eq 20, 3) := by decide +kernel
theorem dX10_isNeutral_9 : decode cX10_isNeutral 9 = .ok (.aload_n 0, 1) := by decide +kernel
theorem dX10_isNeutral_10 : decode cX10_isNeutral 10 = .ok (.iload_n 1, 1) := by decide +kernel
theorem dX10_isNeutral_11 : decode cX10_isNeutral 11 = .ok (.iconst 1, 1) := by decide +kernel
theorem dX10_isNeutral_12 : decode cX10_isNeutral 12 = .ok (.iadd, 1) := by decide +kernel
theorem dX10_isNeutral_13 : decode cX10_isNeutral 13 = .ok (.iload_n 1, 1) := by decide +kernel
theorem dX10_isNeutral_14 : decode cX10_isNeutral 14 = .ok (.iconst 2, 1) := by decide +kernel
theorem dX10_isNeutral_15 : decode cX10_isNeutral 15 = .ok (.iadd, 1) := by decide +kernel
theorem dX10_isNeutral_16 : decode cX10_isNeutral 16 = .ok (.invokevirtual 168, 3) := by decide +kernel
theorem dX10_isNeutral_19 : decode cX10_isNeutral 19 = .ok (.ifCond .eq 7, 3) := by decide +kernel
theorem dX10_isNeutral_22 : decode cX10_isNeutral 22 = .ok (.iconst 1, 1) := by decide +kernel
theorem dX10_isNeutral_23 : decode cX10_isNeutral 23 = .ok (.goto 4, 3) := by decide +kernel
theorem dX10_isNeutral_26 : decode cX10_isNeutral 26 = .ok (.iconst 0, 1) := by decide +kernel
theorem dX10_isNeutral_27 : decode cX10_isNeutral 27 = .ok (.ireturn, 1) := by decide +kernel
theorem dX10_isPrime_0 : decode cX10_isPrime 0 = .ok (.iconst 1, 1) := by decide +kernel
theorem dX10_isPrime_1 : decode cX10_isPrime 1 = .ok (.istore_n 1, 1) := by decide +kernel
theorem dX10_isPrime_2 : decode cX10_isPrime 2 = .ok (.iconst 2, 1) := by decide +kernel
theorem dX10_isPrime_3 : decode cX10_isPrime 3 = .ok (.istore_n 2, 1) := by decide +kernel
theorem dX10_isPrime_4 : decode cX10_isPrime 4 = .ok (.iload_n 2, 1) := by decide +kernel
theorem dX10_isPrime_5 : decode cX10_isPrime 5 = .ok (.iload_n 2, 1) := by decide +kernel
theorem dX10_isPrime_6 : decode cX10_isPrime 6 = .ok (.imul, 1) := by decide +kernel
theorem dX10_isPrime_7 : decode cX10_isPrime 7 = .ok (.iload_n 0, 1) := by decide +kernel
theorem dX10_isPrime_8 : decode cX10_isPrime 8 = .ok (.if_icmp .gt 25, 3) := by decide +kernel
theorem dX10_isPrime_11 : decode cX10_isPrime 11 = .ok (.iload_n 1, 1) := by decide +kernel
theorem dX10_isPrime_12 : decode cX10_isPrime 12 = .ok (.ifCond .eq 13, 3) := by decide +kernel
theorem dX10_isPrime_15 : decode cX10_isPrime 15 = .ok (.iload_n 0, 1) := by decide +kernel
theorem dX10_isPrime_16 : decode cX10_isPrime 16 = .ok (.iload_n 2, 1) := by decide +kernel
theorem dX10_isPrime_17 : decode cX10_isPrime 17 = .ok (.irem, 1) := by decide +kernel
theorem dX10_isPrime_18 : decode cX10_isPrime 18 = .ok (.ifCond .eq 7, 3) := by decide +kernel
theorem dX10_isPrime_21 : decode cX10_isPrime 21 = .ok (.iconst 1, 1) := by decide +kernel
theorem dX10_isPrime_22 : decode cX10_isPrime 22 = .ok (.goto 4, 3) := by decide +kernel
theorem dX10_isPrime_25 : decode cX10_isPrime 25 = .ok (.iconst 0, 1) := by decide +kernel
theorem dX10_isPrime_26 : decode cX10_isPrime 26 = .ok (.istore_n 1, 1) := by decide +kernel
theorem dX10_isPrime_27 : decode cX10_isPrime 27 = .ok (.iinc 2 1, 3) := by decide +kernel
theorem dX10_isPrime_30 : decode cX10_isPrime 30 = .ok (.goto (-26), 3) := by decide +kernel
theorem dX10_isPrime_33 : decode cX10_isPrime 33 = .ok (.iload_n 1, 1) := by decide +kernel
theorem dX10_isPrime_34 : decode cX10_isPrime 34 = .ok (.ireturn, 1) := by decide +kernel
theorem dX10_powers_0 : decode cX10_powers 0 = .ok (.iconst 0, 1) := by decide +kernel
theorem dX10_powers_1 : decode cX10_powers 1 = .ok (.istore_n 1, 1) := by decide +kernel
theorem dX10_powers_2 : decode cX10_powers 2 = .ok (.iload_n 1, 1) := by decide +kernel
theorem dX10_powers_3 : decode cX10_powers 3 = .ok (.bipush 18, 2) := by decide +kernel
theorem dX10_powers_5 : decode cX10_powers 5 = .ok (.if_icmp .ge 16, 3) := by decide +kernel
theorem dX10_powers_8 : decode cX10_powers 8 = .ok (.aload_n 0, 1) := by decide +kernel
theorem dX10_powers_9 : decode cX10_powers 9 = .ok (.getfield 42, 3) := by decide +kernel
theorem dX10_powers_12 : decode cX10_powers 12 = .ok (.iload_n 1, 1) := by decide +kernel
theorem dX10_powers_13 : decode cX10_powers 13 = .ok (.lconst 0, 1) := by decide +kernel
theorem dX10_powers_14 : decode cX10_powers 14 = .ok (.lastore, 1) := by decide +kernel
theorem dX10_powers_15 : decode cX10_powers 15 = .ok (.iinc 1 1, 3) := by decide +kernel
theorem dX10_powers_18 : decode cX10_powers 18 = .ok (.goto (-16), 3) := by decide +kernel
theorem dX10_powers_21 : decode cX10_powers 21 = .ok (.iconst 0, 1) := by decide +kernel
theorem dX10_powers_22 : decode cX10_powers 22 = .ok (.istore_n 1, 1) := by decide +kernel
theorem dX10_powers_23 : decode cX10_powers 23 = .ok (.iload_n 1, 1) := by decide +kernel
theorem dX10_powers_24 : decode cX10_powers 24 = .ok (.bipush 12, 2) := by decide +kernel
theorem dX10_powers_26 : decode cX10_powers 26 = .ok (.if_icmp .ge 16, 3) := by decide +kernel
theorem dX10_powers_29 : decode cX10_powers 29 = .ok (.aload_n 0, 1) := by decide +kernel
theorem dX10_powers_30 : decode cX10_powers 30 = .ok (.getfield 39, 3) := by decide +kernel
theorem dX10_powers_33 : decode cX10_powers 33 = .ok (.iload_n 1, 1) := by decide +kernel
theorem dX10_powers_34 : decode cX10_powers 34 = .ok (.lconst 0, 1) := by decide +kernel
theorem dX10_powers_35 : decode cX10_powers 35 = .ok (.lastore, 1) := by decide +kernel
theorem dX10_powers_36 : decode cX10_powers 36 = .ok (.iinc 1 1, 3) := by decide +kernel
theorem dX10_powers_39 : decode cX10_powers 39 = .ok (.goto (-16), 3) := by decide +kernel
theorem dX10_powers_42 : decode cX10_powers 42 = .ok (.iconst 0, 1) := by decide +kernel
theorem dX10_powers_43 : decode cX10_powers 43 = .ok (.istore_n 1, 1) := by decide +kernel
theorem dX10_powers_44 : decode cX10_powers 44 = .ok (.iload_n 1, 1) := by decide +kernel
theorem dX10_powers_45 : decode cX10_powers 45 = .ok (.iconst 5, 1) := by decide +kernel
theorem dX10_powers_46 : decode cX10_powers 46 = .ok (.if_icmp .ge 46, 3) := by decide +kernel
theorem dX10_powers_49 : decode cX10_powers 49 = .ok (.iconst 0, 1) := by decide +kernel
theorem dX10_powers_50 : decode cX10_powers 50 = .ok (.istore_n 2, 1) := by decide +kernel
theorem dX10_powers_51 : decode cX10_powers 51 = .ok (.iload_n 2, 1) := by decide +kernel
theorem dX10_powers_52 : decode cX10_powers 52 = .ok (.iconst 5, 1) := by decide +kernel
theorem dX10_powers_53 : decode cX10_powers 53 = .ok (.if_icmp .ge 33, 3) := by decide +kernel
theorem dX10_powers_56 : decode cX10_powers 56 = .ok (.aload_n 0, 1) := by decide +kernel
theorem dX10_powers_57 : decode cX10_powers 57 = .ok (.getfield 39, 3) := by decide +kernel
theorem dX10_powers_60 : decode cX10_powers 60 = .ok (.iload_n 1, 1) := by decide +kernel
theorem dX10_powers_61 : decode cX10_powers 61 = .ok (.iload_n 2, 1) := by decide +kernel
theorem dX10_powers_62 : decode cX10_powers 62 = .ok (.iadd, 1) := by decide +kernel
theorem dX10_powers_63 : decode cX10_powers 63 = .ok (.dup2, 1) := by decide +kernel
theorem dX10_powers_64 : decode cX10_powers 64 = .ok (.laload, 1) := by decide +kernel
theorem dX10_powers_65 : decode cX10_powers 65 = .ok (.aload_n 0, 1) := by decide +kernel
theorem dX10_powers_66 : decode cX10_powers 66 = .ok (.getfield 36, 3) := by decide +kernel
theorem dX10_powers_69 : decode cX10_powers 69 = .ok (.iload_n 1, 1) := by decide +kernel
theorem dX10_powers_70 : decode cX10_powers 70 = .ok (.laload, 1) := by decide +kernel
theorem dX10_powers_71 : decode cX10_powers 71 = .ok (.aload_n 0, 1) := by decide +kernel
theorem dX10_powers_72 : decode cX10_powers 72 = .ok (.getfield 36, 3) := by decide +kernel
theorem dX10_powers_75 : decode cX10_powers 75 = .ok (.iload_n 2, 1) := by decide +kernel
theorem dX10_powers_76 : decode cX10_powers 76 = .ok (.laload, 1) := by decide +kernel
theorem dX10_powers_77 : decode cX10_powers 77 = .ok (.lmul, 1) := by decide +kernel
theorem dX10_powers_78 : decode cX10_powers 78 = .ok (.ladd, 1) := by decide +kernel
theorem dX10_powers_79 : decode cX10_powers 79 = .ok (.lastore, 1) := by decide +kernel
theorem dX10_powers_80 : decode cX10_powers 80 = .ok (.iinc 2 1, 3) := by decide +kernel
theorem dX10_powers_83 : decode cX10_powers 83 = .ok (.goto (-32), 3) := by decide +kernel
theorem dX10_powers_86 : decode cX10_powers 86 = .ok (.iinc 1 1, 3) := by decide +kernel
theorem dX10_powers_89 : decode cX10_powers 89 = .ok (.goto (-45), 3) := by decide +kernel
theorem dX10_powers_92 : decode cX10_powers 92 = .ok (.iconst 0, 1) := by decide +kernel
theorem dX10_powers_93 : decode cX10_powers 93 = .ok (.istore_n 1, 1) := by decide +kernel
theorem dX10_powers_94 : decode cX10_powers 94 = .ok (.iload_n 1, 1) := by decide +kernel
theorem dX10_powers_95 : decode cX10_powers 95 = .ok (.bipush 11, 2) := by decide +kernel
theorem dX10_powers_97 : decode cX10_powers 97 = .ok (.if_icmp .ge 41, 3) := by decide +kernel
theorem dX10_powers_100 : decode cX10_powers 100 = .ok (.aload_n 0, 1) := by decide +kernel
theorem dX10_powers_101 : decode cX10_powers 101 = .ok (.getfield 39, 3) := by decide +kernel
theorem dX10_powers_104 : decode cX10_powers 104 = .ok (.iload_n 1, 1) := by decide +kernel
theorem dX10_powers_105 : decode cX10_powers 105 = .ok (.iconst 1, 1) := by decide +kernel
theorem dX10_powers_106 : decode cX10_powers 106 = .ok (.iadd, 1) := by decide +kernel
theorem dX10_powers_107 : decode cX10_powers 107 = .ok (.dup2, 1) := by decide +kernel
theorem dX10_powers_108 : decode cX10_powers 108 = .ok (.laload, 1) := by decide +kernel
theorem dX10_powers_109 : decode cX10_powers 109 = .ok (.aload_n 0, 1) := by decide +kernel
theorem dX10_powers_110 : decode cX10_powers 110 = .ok (.getfield 39, 3) := by decide +kernel
theorem dX10_powers_113 : decode cX10_powers 113 = .ok (.iload_n 1, 1) := by decide +kernel
theorem dX10_powers_114 : decode cX10_powers 114 = .ok (.laload, 1) := by decide +kernel
theorem dX10_powers_115 : decode cX10_powers 115 = .ok (.bipush 16, 2) := by decide +kernel
theorem dX10_powers_117 : decode cX10_powers 117 = .ok (.lshr, 1) := by decide +kernel
theorem dX10_powers_118 : decode cX10_powers 118 = .ok (.ladd, 1) := by decide +kernel
theorem dX10_powers_119 : decode cX10_powers 119 = .ok (.lastore, 1) := by decide +kernel
theorem dX10_powers_120 : decode cX10_powers 120 = .ok (.aload_n 0, 1) := by decide +kernel
theorem dX10_powers_121 : decode cX10_powers 121 = .ok (.getfield 39, 3) := by decide +kernel
theorem dX10_powers_124 : decode cX10_powers 124 = .ok (.iload_n 1, 1) := by decide +kernel
theorem dX10_powers_125 : decode cX10_powers 125 = .ok (.dup2, 1) := by decide +kernel
theorem dX10_powers_126 : decode cX10_powers 126 = .ok (.laload, 1) := by decide +kernel
theorem dX10_powers_127 : decode cX10_powers 127 = .ok (.ldc2_w 141, 3) := by decide +kernel
theorem dX10_powers_130 : decode cX10_powers 130 = .ok (.land, 1) := by decide +kernel
theorem dX10_powers_131 : decode cX10_powers 131 = .ok (.lastore, 1) := by decide +kernel
theorem dX10_powers_132 : decode cX10_powers 132 = .ok (.iinc 1 1, 3) := by decide +kernel
theorem dX10_powers_135 : decode cX10_powers 135 = .ok (.goto (-41), 3) := by decide +kernel
theorem dX10_powers_138 : decode cX10_powers 138 = .ok (.iconst 0, 1) := by decide +kernel
theorem dX10_powers_139 : decode cX10_powers 139 = .ok (.istore_n 1, 1) := by decide +kernel
theorem dX10_powers_140 : decode cX10_powers 140 = .ok (.iload_n 1, 1) := by decide +kernel
theorem dX10_powers_141 : decode cX10_powers 141 = .ok (.bipush 11, 2) := by decide +kernel
theorem dX10_powers_143 : decode cX10_powers 143 = .ok (.if_icmp .ge 46, 3) := by decide +kernel
theorem dX10_powers_146 : decode cX10_powers 146 = .ok (.iconst 0, 1) := by decide +kernel
theorem dX10_powers_147 : decode cX10_powers 147 = .ok (.istore_n 2, 1) := by decide +kernel
theorem dX10_powers_148 : decode cX10_powers 148 = .ok (.iload_n 2, 1) := by decide +kernel
theorem dX10_powers_149 : decode cX10_powers 149 = .ok (.iconst 5, 1) := by decide +kernel
theorem dX10_powers_150 : decode cX10_powers 150 = .ok (.if_icmp .ge 33, 3) := by decide +kernel
theorem dX10_powers_153 : decode cX10_powers 153 = .ok (.aload_n 0, 1) := by decide +kernel
theorem dX10_powers_154 : decode cX10_powers 154 = .ok (.getfield 42, 3) := by decide +kernel
theorem dX10_powers_157 : decode cX10_powers 157 = .ok (.iload_n 1, 1) := by decide +kernel
theorem dX10_powers_158 : decode cX10_powers 158 = .ok (.iload_n 2, 1) := by decide +kernel
theorem dX10_powers_159 : decode cX10_powers 159 = .ok (.iadd, 1) := by decide +kernel
theorem dX10_powers_160 : decode cX10_powers 160 = .ok (.dup2, 1) := by decide +kernel
theorem dX10_powers_161 : decode cX10_powers 161 = .ok (.laload, 1) := by decide +kernel
theorem dX10_powers_162 : decode cX10_powers 162 = .ok (.aload_n 0, 1) := by decide +kernel
theorem dX10_powers_163 : decode cX10_powers 163 = .ok (.getfield 39, 3) := by decide +kernel
theorem dX10_powers_166 : decode cX10_powers 166 = .ok (.iload_n 1, 1) := by decide +kernel
theorem dX10_powers_167 : decode cX10_powers 167 = .ok (.laload, 1) := by decide +kernel
theorem dX10_powers_168 : decode cX10_powers 168 = .ok (.aload_n 0, 1) := by decide +kernel
theorem dX10_powers_169 : decode cX10_powers 169 = .ok (.getfield 36, 3) := by decide +kernel
theorem dX10_powers_172 : decode cX10_powers 172 = .ok (.iload_n 2, 1) := by decide +kernel
theorem dX10_powers_173 : decode cX10_powers 173 = .ok (.laload, 1) := by decide +kernel
theorem dX10_powers_174 : decode cX10_powers 174 = .ok (.lmul, 1) := by decide +kernel
theorem dX10_powers_175 : decode cX10_powers 175 = .ok (.ladd, 1) := by decide +kernel
theorem dX10_powers_176 : decode cX10_powers 176 = .ok (.lastore, 1) := by decide +kernel
theorem dX10_powers_177 : decode cX10_powers 177 = .ok (.iinc 2 1, 3) := by decide +kernel
theorem dX10_powers_180 : decode cX10_powers 180 = .ok (.goto (-32), 3) := by decide +kernel
theorem dX10_powers_183 : decode cX10_powers 183 = .ok (.iinc 1 1, 3) := by decide +kernel
theorem dX10_powers_186 : decode cX10_powers 186 = .ok (.goto (-46), 3) := by decide +kernel
theorem dX10_powers_189 : decode cX10_powers 189 = .ok (.iconst 0, 1) := by decide +kernel
theorem dX10_powers_190 : decode cX10_powers 190 = .ok (.istore_n 1, 1) := by decide +kernel
theorem dX10_powers_191 : decode cX10_powers 191 = .ok (.iload_n 1, 1) := by decide +kernel
theorem dX10_powers_192 : decode cX10_powers 192 = .ok (.bipush 17, 2) := by decide +kernel
theorem dX10_powers_194 : decode cX10_powers 194 = .ok (.if_icmp .ge 41, 3) := by decide +kernel
theorem dX10_powers_197 : decode cX10_powers 197 = .ok (.aload_n 0, 1) := by decide +kernel
theorem dX10_powers_198 : decode cX10_powers 198 = .ok (.getfield 42, 3) := by decide +kernel
theorem dX10_powers_201 : decode cX10_powers 201 = .ok (.iload_n 1, 1) := by decide +kernel
theorem dX10_powers_202 : decode cX10_powers 202 = .ok (.iconst 1, 1) := by decide +kernel
theorem dX10_powers_203 : decode cX10_powers 203 = .ok (.iadd, 1) := by decide +kernel
theorem dX10_powers_204 : decode cX10_powers 204 = .ok (.dup2, 1) := by decide +kernel
theorem dX10_powers_205 : decode cX10_powers 205 = .ok (.laload, 1) := by decide +kernel
theorem dX10_powers_206 : decode cX10_powers 206 = .ok (.aload_n 0, 1) := by decide +kernel
theorem dX10_powers_207 : decode cX10_powers 207 = .ok (.getfield 42, 3) := by decide +kernel
theorem dX10_powers_210 : decode cX10_powers 210 = .ok (.iload_n 1, 1) := by decide +kernel
theorem dX10_powers_211 : decode cX10_powers 211 = .ok (.laload, 1) := by decide +kernel
theorem dX10_powers_212 : decode cX10_powers 212 = .ok (.bipush 16, 2) := by decide +kernel
theorem dX10_powers_214 : decode cX10_powers 214 = .ok (.lshr, 1) := by decide +kernel
theorem dX10_powers_215 : decode cX10_powers 215 = .ok (.ladd, 1) := by decide +kernel
theorem dX10_powers_216 : decode cX10_powers 216 = .ok (.lastore, 1) := by decide +kernel
theorem dX10_powers_217 : decode cX10_powers 217 = .ok (.aload_n 0, 1) := by decide +kernel
theorem dX10_powers_218 : decode cX10_powers 218 = .ok (.getfield 42, 3) := by decide +kernel
theorem dX10_powers_221 : decode cX10_powers 221 = .ok (.iload_n 1, 1) := by decide +kernel
theorem dX10_powers_222 : decode cX10_powers 222 = .ok (.dup2, 1) := by decide +kernel
theorem dX10_powers_223 : decode cX10_powers 223 = .ok (.laload, 1) := by decide +kernel
theorem dX10_powers_224 : decode cX10_powers 224 = .ok (.ldc2_w 141, 3) := by decide +kernel
theorem dX10_powers_227 : decode cX10_powers 227 = .ok (.land, 1) := by decide +kernel
theorem dX10_powers_228 : decode cX10_powers 228 = .ok (.lastore, 1) := by decide +kernel
theorem dX10_powers_229 : decode cX10_powers 229 = .ok (.iinc 1 1, 3) := by decide +kernel
theorem dX10_powers_232 : decode cX10_powers 232 = .ok (.goto (-41), 3) := by decide +kernel
theorem dX10_powers_235 : decode cX10_powers 235 = .ok (.return_, 1) := by decide +kernel
theorem dX10_behindPoint_0 : decode cX10_behindPoint 0 = .ok (.iconst 0, 1) := by decide +kernel
theorem dX10_behindPoint_1 : decode cX10_behindPoint 1 = .ok (.istore_n 3, 1) := by decide +kernel
theorem dX10_behindPoint_2 : decode cX10_behindPoint 2 = .ok (.iload_n 3, 1) := by decide +kernel
theorem dX10_behindPoint_3 : decode cX10_behindPoint 3 = .ok (.bipush 6, 2) := by decide +kernel
theorem dX10_behindPoint_5 : decode cX10_behindPoint 5 = .ok (.if_icmp .ge 16, 3) := by decide +kernel
theorem dX10_behindPoint_8 : decode cX10_behindPoint 8 = .ok (.aload_n 0, 1) := by decide +kernel
theorem dX10_behindPoint_9 : decode cX10_behindPoint 9 = .ok (.getfield 36, 3) := by decide +kernel
theorem dX10_behindPoint_12 : decode cX10_behindPoint 12 = .ok (.iload_n 3, 1) := by decide +kernel
theorem dX10_behindPoint_13 : decode cX10_behindPoint 13 = .ok (.lconst 0, 1) := by decide +kernel
theorem dX10_behindPoint_14 : decode cX10_behindPoint 14 = .ok (.lastore, 1) := by decide +kernel
theorem dX10_behindPoint_15 : decode cX10_behindPoint 15 = .ok (.iinc 3 1, 3) := by decide +kernel
theorem dX10_behindPoint_18 : decode cX10_behindPoint 18 = .ok (.goto (-16), 3) := by decide +kernel
theorem dX10_behindPoint_21 : decode cX10_behindPoint 21 = .ok (.bipush 68, 2) := by decide +kernel
theorem dX10_behindPoint_23 : decode cX10_behindPoint 23 = .ok (.istore_n 3, 1) := by decide +kernel
theorem dX10_behindPoint_24 : decode cX10_behindPoint 24 = .ok (.iload_n 3, 1) := by decide +kernel
theorem dX10_behindPoint_25 : decode cX10_behindPoint 25 = .ok (.ifCond .lt 137, 3) := by decide +kernel
theorem dX10_behindPoint_28 : decode cX10_behindPoint 28 = .ok (.aload_n 0, 1) := by decide +kernel
theorem dX10_behindPoint_29 : decode cX10_behindPoint 29 = .ok (.getfield 36, 3) := by decide +kernel
theorem dX10_behindPoint_32 : decode cX10_behindPoint 32 = .ok (.iload_n 3, 1) := by decide +kernel
theorem dX10_behindPoint_33 : decode cX10_behindPoint 33 = .ok (.iconst 4, 1) := by decide +kernel
theorem dX10_behindPoint_34 : decode cX10_behindPoint 34 = .ok (.ishr, 1) := by decide +kernel
theorem dX10_behindPoint_35 : decode cX10_behindPoint 35 = .ok (.dup2, 1) := by decide +kernel
theorem dX10_behindPoint_36 : decode cX10_behindPoint 36 = .ok (.laload, 1) := by decide +kernel
theorem dX10_behindPoint_37 : decode cX10_behindPoint 37 = .ok (.lconst 1, 1) := by decide +kernel
theorem dX10_behindPoint_38 : decode cX10_behindPoint 38 = .ok (.iload_n 3, 1) := by decide +kernel
theorem dX10_behindPoint_39 : decode cX10_behindPoint 39 = .ok (.bipush 15, 2) := by decide +kernel
theorem dX10_behindPoint_41 : decode cX10_behindPoint 41 = .ok (.iand, 1) := by decide +kernel
theorem dX10_behindPoint_42 : decode cX10_behindPoint 42 = .ok (.lshl, 1) := by decide +kernel
theorem dX10_behindPoint_43 : decode cX10_behindPoint 43 = .ok (.lor, 1) := by decide +kernel
theorem dX10_behindPoint_44 : decode cX10_behindPoint 44 = .ok (.lastore, 1) := by decide +kernel
theorem dX10_behindPoint_45 : decode cX10_behindPoint 45 = .ok (.aload_n 0, 1) := by decide +kernel
theorem dX10_behindPoint_46 : decode cX10_behindPoint 46 = .ok (.invokevirtual 186, 3) := by decide +kernel
theorem dX10_behindPoint_49 : decode cX10_behindPoint 49 = .ok (.iload_n 2, 1) := by decide +kernel
theorem dX10_behindPoint_50 : decode cX10_behindPoint 50 = .ok (.ifCond .eq 46, 3) := by decide +kernel
theorem dX10_behindPoint_53 : decode cX10_behindPoint 53 = .ok (.aload_n 0, 1) := by decide +kernel
theorem dX10_behindPoint_54 : decode cX10_behindPoint 54 = .ok (.getfield 42, 3) := by decide +kernel
theorem dX10_behindPoint_57 : decode cX10_behindPoint 57 = .ok (.bipush 12, 2) := by decide +kernel
theorem dX10_behindPoint_59 : decode cX10_behindPoint 59 = .ok (.laload, 1) := by decide +kernel
theorem dX10_behindPoint_60 : decode cX10_behindPoint 60 = .ok (.aload_n 0, 1) := by decide +kernel
theorem dX10_behindPoint_61 : decode cX10_behindPoint 61 = .ok (.getfield 42, 3) := by decide +kernel
theorem dX10_behindPoint_64 : decode cX10_behindPoint 64 = .ok (.bipush 13, 2) := by decide +kernel
theorem dX10_behindPoint_66 : decode cX10_behindPoint 66 = .ok (.laload, 1) := by decide +kernel
theorem dX10_behindPoint_67 : decode cX10_behindPoint 67 = .ok (.bipush 16, 2) := by decide +kernel
theorem dX10_behindPoint_69 : decode cX10_behindPoint 69 = .ok (.lshl, 1) := by decide +kernel
theorem dX10_behindPoint_70 : decode cX10_behindPoint 70 = .ok (.ladd, 1) := by decide +kernel
theorem dX10_behindPoint_71 : decode cX10_behindPoint 71 = .ok (.aload_n 0, 1) := by decide +kernel
theorem dX10_behindPoint_72 : decode cX10_behindPoint 72 = .ok (.getfield 42, 3) := by decide +kernel
theorem dX10_behindPoint_75 : decode cX10_behindPoint 75 = .ok (.bipush 14, 2) := by decide +kernel
theorem dX10_behindPoint_77 : decode cX10_behindPoint 77 = .ok (.laload, 1) := by decide +kernel
theorem dX10_behindPoint_78 : decode cX10_behindPoint 78 = .ok (.bipush 32, 2) := by decide +kernel
theorem dX10_behindPoint_80 : decode cX10_behindPoint 80 = .ok (.lshl, 1) := by decide +kernel
theorem dX10_behindPoint_81 : decode cX10_behindPoint 81 = .ok (.ladd, 1) := by decide +kernel
theorem dX10_behindPoint_82 : decode cX10_behindPoint 82 = .ok (.aload_n 0, 1) := by decide +kernel
theorem dX10_behindPoint_83 : decode cX10_behindPoint 83 = .ok (.getfield 42, 3) := by decide +kernel
theorem dX10_behindPoint_86 : decode cX10_behindPoint 86 = .ok (.bipush 15, 2) := by decide +kernel
theorem dX10_behindPoint_88 : decode cX10_behindPoint 88 = .ok (.laload, 1) := by decide +kernel
theorem dX10_behindPoint_89 : decode cX10_behindPoint 89 = .ok (.bipush 48, 2) := by decide +kernel
theorem dX10_behindPoint_91 : decode cX10_behindPoint 91 = .ok (.lshl, 1) := by decide +kernel
theorem dX10_behindPoint_92 : decode cX10_behindPoint 92 = .ok (.ladd, 1) := by decide +kernel
theorem dX10_behindPoint_93 : decode cX10_behindPoint 93 = .ok (.goto 32, 3) := by decide +kernel
theorem dX10_behindPoint_96 : decode cX10_behindPoint 96 = .ok (.aload_n 0, 1) := by decide +kernel
theorem dX10_behindPoint_97 : decode cX10_behindPoint 97 = .ok (.getfield 39, 3) := by decide +kernel
theorem dX10_behindPoint_100 : decode cX10_behindPoint 100 = .ok (.bipush 8, 2) := by decide +kernel
theorem dX10_behindPoint_102 : decode cX10_behindPoint 102 = .ok (.laload, 1) := by decide +kernel
theorem dX10_behindPoint_103 : decode cX10_behindPoint 103 = .ok (.aload_n 0, 1) := by decide +kernel
theorem dX10_behindPoint_104 : decode cX10_behindPoint 104 = .ok (.getfield 39, 3) := by decide +kernel
theorem dX10_behindPoint_107 : decode cX10_behindPoint 107 = .ok (.bipush 9, 2) := by decide +kernel
theorem dX10_behindPoint_109 : decode cX10_behindPoint 109 = .ok (.laload, 1) := by decide +kernel
theorem dX10_behindPoint_110 : decode cX10_behindPoint 110 = .ok (.bipush 16, 2) := by decide +kernel
theorem dX10_behindPoint_112 : decode cX10_behindPoint 112 = .ok (.lshl, 1) := by decide +kernel
theorem dX10_behindPoint_113 : decode cX10_behindPoint 113 = .ok (.ladd, 1) := by decide +kernel
theorem dX10_behindPoint_114 : decode cX10_behindPoint 114 = .ok (.aload_n 0, 1) := by decide +kernel
theorem dX10_behindPoint_115 : decode cX10_behindPoint 115 = .ok (.getfield 39, 3) := by decide +kernel
theorem dX10_behindPoint_118 : decode cX10_behindPoint 118 = .ok (.bipush 10, 2) := by decide +kernel
theorem dX10_behindPoint_120 : decode cX10_behindPoint 120 = .ok (.laload, 1) := by decide +kernel
theorem dX10_behindPoint_121 : decode cX10_behindPoint 121 = .ok (.bipush 32, 2) := by decide +kernel
theorem dX10_behindPoint_123 : decode cX10_behindPoint 123 = .ok (.lshl, 1) := by decide +kernel
theorem dX10_behindPoint_124 : decode cX10_behindPoint 124 = .ok (.ladd, 1) := by decide +kernel
theorem dX10_behindPoint_125 : decode cX10_behindPoint 125 = .ok (.lstore 4, 2) := by decide +kernel
theorem dX10_behindPoint_127 : decode cX10_behindPoint 127 = .ok (.lload 4, 2) := by decide +kernel
theorem dX10_behindPoint_129 : decode cX10_behindPoint 129 = .ok (.iload_n 1, 1) := by decide +kernel
theorem dX10_behindPoint_130 : decode cX10_behindPoint 130 = .ok (.i2l, 1) := by decide +kernel
theorem dX10_behindPoint_131 : decode cX10_behindPoint 131 = .ok (.lcmp, 1) := by decide +kernel
theorem dX10_behindPoint_132 : decode cX10_behindPoint 132 = .ok (.ifCond .lt 24, 3) := by decide +kernel
theorem dX10_behindPoint_135 : decode cX10_behindPoint 135 = .ok (.aload_n 0, 1) := by decide +kernel
theorem dX10_behindPoint_136 : decode cX10_behindPoint 136 = .ok (.getfield 36, 3) := by decide +kernel
theorem dX10_behindPoint_139 : decode cX10_behindPoint 139 = .ok (.iload_n 3, 1) := by decide +kernel
theorem dX10_behindPoint_140 : decode cX10_behindPoint 140 = .ok (.iconst 4, 1) := by decide +kernel
theorem dX10_behindPoint_141 : decode cX10_behindPoint 141 = .ok (.ishr, 1) := by decide +kernel
theorem dX10_behindPoint_142 : decode cX10_behindPoint 142 = .ok (.dup2, 1) := by decide +kernel
theorem dX10_behindPoint_143 : decode cX10_behindPoint 143 = .ok (.laload, 1) := by decide +kernel
theorem dX10_behindPoint_144 : decode cX10_behindPoint 144 = .ok (.lconst 1, 1) := by decide +kernel
theorem dX10_behindPoint_145 : decode cX10_behindPoint 145 = .ok (.iload_n 3, 1) := by decide +kernel
theorem dX10_behindPoint_146 : decode cX10_behindPoint 146 = .ok (.bipush 15, 2) := by decide +kernel
theorem dX10_behindPoint_148 : decode cX10_behindPoint 148 = .ok (.iand, 1) := by decide +kernel
theorem dX10_behindPoint_149 : decode cX10_behindPoint 149 = .ok (.lshl, 1) := by decide +kernel
theorem dX10_behindPoint_150 : decode cX10_behindPoint 150 = .ok (.ldc2_w 68, 3) := by decide +kernel
theorem dX10_behindPoint_153 : decode cX10_behindPoint 153 = .ok (.lxor, 1) := by decide +kernel
theorem dX10_behindPoint_154 : decode cX10_behindPoint 154 = .ok (.land, 1) := by decide +kernel
theorem dX10_behindPoint_155 : decode cX10_behindPoint 155 = .ok (.lastore, 1) := by decide +kernel
theorem dX10_behindPoint_156 : decode cX10_behindPoint 156 = .ok (.iinc 3 (-1), 3) := by decide +kernel
theorem dX10_behindPoint_159 : decode cX10_behindPoint 159 = .ok (.goto (-135), 3) := by decide +kernel
theorem dX10_behindPoint_162 : decode cX10_behindPoint 162 = .ok (.aload_n 0, 1) := by decide +kernel
theorem dX10_behindPoint_163 : decode cX10_behindPoint 163 = .ok (.getfield 36, 3) := by decide +kernel
theorem dX10_behindPoint_166 : decode cX10_behindPoint 166 = .ok (.iconst 0, 1) := by decide +kernel
theorem dX10_behindPoint_167 : decode cX10_behindPoint 167 = .ok (.laload, 1) := by decide +kernel
theorem dX10_behindPoint_168 : decode cX10_behindPoint 168 = .ok (.aload_n 0, 1) := by decide +kernel
theorem dX10_behindPoint_169 : decode cX10_behindPoint 169 = .ok (.getfield 36, 3) := by decide +kernel
theorem dX10_behindPoint_172 : decode cX10_behindPoint 172 = .ok (.iconst 1, 1) := by decide +kernel
theorem dX10_behindPoint_173 : decode cX10_behindPoint 173 = .ok (.laload, 1) := by decide +kernel
theorem dX10_behindPoint_174 : decode cX10_behindPoint 174 = .ok (.bipush 16, 2) := by decide +kernel
theorem dX10_behindPoint_176 : decode cX10_behindPoint 176 = .ok (.lshl, 1) := by decide +kernel
theorem dX10_behindPoint_177 : decode cX10_behindPoint 177 = .ok (.lor, 1) := by decide +kernel
theorem dX10_behindPoint_178 : decode cX10_behindPoint 178 = .ok (.aload_n 0, 1) := by decide +kernel
theorem dX10_behindPoint_179 : decode cX10_behindPoint 179 = .ok (.getfield 36, 3) := by decide +kernel
theorem dX10_behindPoint_182 : decode cX10_behindPoint 182 = .ok (.iconst 2, 1) := by decide +kernel
theorem dX10_behindPoint_183 : decode cX10_behindPoint 183 = .ok (.laload, 1) := by decide +kernel
theorem dX10_behindPoint_184 : decode cX10_behindPoint 184 = .ok (.bipush 32, 2) := by decide +kernel
theorem dX10_behindPoint_186 : decode cX10_behindPoint 186 = .ok (.lshl, 1) := by decide +kernel
theorem dX10_behindPoint_187 : decode cX10_behindPoint 187 = .ok (.lor, 1) := by decide +kernel
theorem dX10_behindPoint_188 : decode cX10_behindPoint 188 = .ok (.aload_n 0, 1) := by decide +kernel
theorem dX10_behindPoint_189 : decode cX10_behindPoint 189 = .ok (.getfield 36, 3) := by decide +kernel
theorem dX10_behindPoint_192 : decode cX10_behindPoint 192 = .ok (.iconst 3, 1) := by decide +kernel
theorem dX10_behindPoint_193 : decode cX10_behindPoint 193 = .ok (.laload, 1) := by decide +kernel
theorem dX10_behindPoint_194 : decode cX10_behindPoint 194 = .ok (.bipush 48, 2) := by decide +kernel
theorem dX10_behindPoint_196 : decode cX10_behindPoint 196 = .ok (.lshl, 1) := by decide +kernel
theorem dX10_behindPoint_197 : decode cX10_behindPoint 197 = .ok (.lor, 1) := by decide +kernel
theorem dX10_behindPoint_198 : decode cX10_behindPoint 198 = .ok (.lreturn, 1) := by decide +kernel
theorem dX10_roots__0 : decode cX10_roots_ 0 = .ok (.iconst 0, 1) := by decide +kernel
theorem dX10_roots__1 : decode cX10_roots_ 1 = .ok (.istore_n 1, 1) := by decide +kernel
theorem dX10_roots__2 : decode cX10_roots_ 2 = .ok (.iconst 2, 1) := by decide +kernel
theorem dX10_roots__3 : decode cX10_roots_ 3 = .ok (.istore_n 2, 1) := by decide +kernel
theorem dX10_roots__4 : decode cX10_roots_ 4 = .ok (.iload_n 1, 1) := by decide +kernel
theorem dX10_roots__5 : decode cX10_roots_ 5 = .ok (.bipush 80, 2) := by decide +kernel
theorem dX10_roots__7 : decode cX10_roots_ 7 = .ok (.if_icmp .ge 49, 3) := by decide +kernel
theorem dX10_roots__10 : decode cX10_roots_ 10 = .ok (.iload_n 2, 1) := by decide +kernel
theorem dX10_roots__11 : decode cX10_roots_ 11 = .ok (.invokestatic 189, 3) := by decide +kernel
theorem dX10_roots__14 : decode cX10_roots_ 14 = .ok (.ifCond .eq 36, 3) := by decide +kernel
theorem dX10_roots__17 : decode cX10_roots_ 17 = .ok (.aload_n 0, 1) := by decide +kernel
theorem dX10_roots__18 : decode cX10_roots_ 18 = .ok (.getfield 33, 3) := by decide +kernel
theorem dX10_roots__21 : decode cX10_roots_ 21 = .ok (.iload_n 1, 1) := by decide +kernel
theorem dX10_roots__22 : decode cX10_roots_ 22 = .ok (.aload_n 0, 1) := by decide +kernel
theorem dX10_roots__23 : decode cX10_roots_ 23 = .ok (.iload_n 2, 1) := by decide +kernel
theorem dX10_roots__24 : decode cX10_roots_ 24 = .ok (.iconst 1, 1) := by decide +kernel
theorem dX10_roots__25 : decode cX10_roots_ 25 = .ok (.invokevirtual 193, 3) := by decide +kernel
theorem dX10_roots__28 : decode cX10_roots_ 28 = .ok (.lastore, 1) := by decide +kernel
theorem dX10_roots__29 : decode cX10_roots_ 29 = .ok (.iload_n 1, 1) := by decide +kernel
theorem dX10_roots__30 : decode cX10_roots_ 30 = .ok (.bipush 8, 2) := by decide +kernel
theorem dX10_roots__32 : decode cX10_roots_ 32 = .ok (.if_icmp .ge 15, 3) := by decide +kernel
theorem dX10_roots__35 : decode cX10_roots_ 35 = .ok (.aload_n 0, 1) := by decide +kernel
theorem dX10_roots__36 : decode cX10_roots_ 36 = .ok (.getfield 30, 3) := by decide +kernel
theorem dX10_roots__39 : decode cX10_roots_ 39 = .ok (.iload_n 1, 1) := by decide +kernel
theorem dX10_roots__40 : decode cX10_roots_ 40 = .ok (.aload_n 0, 1) := by decide +kernel
theorem dX10_roots__41 : decode cX10_roots_ 41 = .ok (.iload_n 2, 1) := by decide +kernel
theorem dX10_roots__42 : decode cX10_roots_ 42 = .ok (.iconst 0, 1) := by decide +kernel
theorem dX10_roots__43 : decode cX10_roots_ 43 = .ok (.invokevirtual 193, 3) := by decide +kernel
theorem dX10_roots__46 : decode cX10_roots_ 46 = .ok (.lastore, 1) := by decide +kernel
theorem dX10_roots__47 : decode cX10_roots_ 47 = .ok (.iinc 1 1, 3) := by decide +kernel
theorem dX10_roots__50 : decode cX10_roots_ 50 = .ok (.iinc 2 1, 3) := by decide +kernel
theorem dX10_roots__53 : decode cX10_roots_ 53 = .ok (.goto (-49), 3) := by decide +kernel
theorem dX10_roots__56 : decode cX10_roots_ 56 = .ok (.return_, 1) := by decide +kernel
theorem dX10_tell_0 : decode cX10_tell 0 = .ok (.aload_n 0, 1) := by decide +kernel
theorem dX10_tell_1 : decode cX10_tell 1 = .ok (.getfield 45, 3) := by decide +kernel
theorem dX10_tell_4 : decode cX10_tell 4 = .ok (.aload_n 0, 1) := by decide +kernel
theorem dX10_tell_5 : decode cX10_tell 5 = .ok (.getfield 197, 3) := by decide +kernel
theorem dX10_tell_8 : decode cX10_tell 8 = .ok (.iload_n 1, 1) := by decide +kernel
theorem dX10_tell_9 : decode cX10_tell 9 = .ok (.iastore, 1) := by decide +kernel
theorem dX10_tell_10 : decode cX10_tell 10 = .ok (.aload_n 0, 1) := by decide +kernel
theorem dX10_tell_11 : decode cX10_tell 11 = .ok (.dup, 1) := by decide +kernel
theorem dX10_tell_12 : decode cX10_tell 12 = .ok (.getfield 197, 3) := by decide +kernel
theorem dX10_tell_15 : decode cX10_tell 15 = .ok (.iconst 1, 1) := by decide +kernel
theorem dX10_tell_16 : decode cX10_tell 16 = .ok (.iadd, 1) := by decide +kernel
theorem dX10_tell_17 : decode cX10_tell 17 = .ok (.putfield 197, 3) := by decide +kernel
theorem dX10_tell_20 : decode cX10_tell 20 = .ok (.return_, 1) := by decide +kernel
theorem dX10_tellWords_0 : decode cX10_tellWords 0 = .ok (.iconst 0, 1) := by decide +kernel
theorem dX10_tellWords_1 : decode cX10_tellWords 1 = .ok (.istore_n 2, 1) := by decide +kernel
theorem dX10_tellWords_2 : decode cX10_tellWords 2 = .ok (.iload_n 2, 1) := by decide +kernel
theorem dX10_tellWords_3 : decode cX10_tellWords 3 = .ok (.bipush 32, 2) := by decide +kernel
theorem dX10_tellWords_5 : decode cX10_tellWords 5 = .ok (.if_icmp .ge 36, 3) := by decide +kernel
theorem dX10_tellWords_8 : decode cX10_tellWords 8 = .ok (.aload_n 0, 1) := by decide +kernel
theorem dX10_tellWords_9 : decode cX10_tellWords 9 = .ok (.aload_n 0, 1) := by decide +kernel
theorem dX10_tellWords_10 : decode cX10_tellWords 10 = .ok (.getfield 27, 3) := by decide +kernel
theorem dX10_tellWords_13 : decode cX10_tellWords 13 = .ok (.iload_n 1, 1) := by decide +kernel
theorem dX10_tellWords_14 : decode cX10_tellWords 14 = .ok (.iload_n 2, 1) := by decide +kernel
theorem dX10_tellWords_15 : decode cX10_tellWords 15 = .ok (.iconst 3, 1) := by decide +kernel
theorem dX10_tellWords_16 : decode cX10_tellWords 16 = .ok (.ishr, 1) := by decide +kernel
theorem dX10_tellWords_17 : decode cX10_tellWords 17 = .ok (.iadd, 1) := by decide +kernel
theorem dX10_tellWords_18 : decode cX10_tellWords 18 = .ok (.laload, 1) := by decide +kernel
theorem dX10_tellWords_19 : decode cX10_tellWords 19 = .ok (.bipush 8, 2) := by decide +kernel
theorem dX10_tellWords_21 : decode cX10_tellWords 21 = .ok (.iload_n 2, 1) := by decide +kernel
theorem dX10_tellWords_22 : decode cX10_tellWords 22 = .ok (.bipush 7, 2) := by decide +kernel
theorem dX10_tellWords_24 : decode cX10_tellWords 24 = .ok (.iand, 1) := by decide +kernel
theorem dX10_tellWords_25 : decode cX10_tellWords 25 = .ok (.imul, 1) := by decide +kernel
theorem dX10_tellWords_26 : decode cX10_tellWords 26 = .ok (.lushr, 1) := by decide +kernel
theorem dX10_tellWords_27 : decode cX10_tellWords 27 = .ok (.l2i, 1) := by decide +kernel
theorem dX10_tellWords_28 : decode cX10_tellWords 28 = .ok (.sipush 255, 3) := by decide +kernel
theorem dX10_tellWords_31 : decode cX10_tellWords 31 = .ok (.iand, 1) := by decide +kernel
theorem dX10_tellWords_32 : decode cX10_tellWords 32 = .ok (.invokevirtual 200, 3) := by decide +kernel
theorem dX10_tellWords_35 : decode cX10_tellWords 35 = .ok (.iinc 2 1, 3) := by decide +kernel
theorem dX10_tellWords_38 : decode cX10_tellWords 38 = .ok (.goto (-36), 3) := by decide +kernel
theorem dX10_tellWords_41 : decode cX10_tellWords 41 = .ok (.return_, 1) := by decide +kernel
theorem dX10_tellText_0 : decode cX10_tellText 0 = .ok (.iconst 0, 1) := by decide +kernel
theorem dX10_tellText_1 : decode cX10_tellText 1 = .ok (.istore_n 1, 1) := by decide +kernel
theorem dX10_tellText_2 : decode cX10_tellText 2 = .ok (.iload_n 1, 1) := by decide +kernel
theorem dX10_tellText_3 : decode cX10_tellText 3 = .ok (.aload_n 0, 1) := by decide +kernel
theorem dX10_tellText_4 : decode cX10_tellText 4 = .ok (.getfield 203, 3) := by decide +kernel
theorem dX10_tellText_7 : decode cX10_tellText 7 = .ok (.if_icmp .ge 19, 3) := by decide +kernel
theorem dX10_tellText_10 : decode cX10_tellText 10 = .ok (.aload_n 0, 1) := by decide +kernel
theorem dX10_tellText_11 : decode cX10_tellText 11 = .ok (.aload_n 0, 1) := by decide +kernel
theorem dX10_tellText_12 : decode cX10_tellText 12 = .ok (.getfield 13, 3) := by decide +kernel
theorem dX10_tellText_15 : decode cX10_tellText 15 = .ok (.iload_n 1, 1) := by decide +kernel
theorem dX10_tellText_16 : decode cX10_tellText 16 = .ok (.iaload, 1) := by decide +kernel
theorem dX10_tellText_17 : decode cX10_tellText 17 = .ok (.invokevirtual 200, 3) := by decide +kernel
theorem dX10_tellText_20 : decode cX10_tellText 20 = .ok (.iinc 1 1, 3) := by decide +kernel
theorem dX10_tellText_23 : decode cX10_tellText 23 = .ok (.goto (-21), 3) := by decide +kernel
theorem dX10_tellText_26 : decode cX10_tellText 26 = .ok (.return_, 1) := by decide +kernel
theorem dX10_turned_0 : decode cX10_turned 0 = .ok (.lload_n 0, 1) := by decide +kernel
theorem dX10_turned_1 : decode cX10_turned 1 = .ok (.iload_n 2, 1) := by decide +kernel
theorem dX10_turned_2 : decode cX10_turned 2 = .ok (.lushr, 1) := by decide +kernel
theorem dX10_turned_3 : decode cX10_turned 3 = .ok (.lload_n 0, 1) := by decide +kernel
theorem dX10_turned_4 : decode cX10_turned 4 = .ok (.bipush 64, 2) := by decide +kernel
theorem dX10_turned_6 : decode cX10_turned 6 = .ok (.iload_n 2, 1) := by decide +kernel
theorem dX10_turned_7 : decode cX10_turned 7 = .ok (.isub, 1) := by decide +kernel
theorem dX10_turned_8 : decode cX10_turned 8 = .ok (.lshl, 1) := by decide +kernel
theorem dX10_turned_9 : decode cX10_turned 9 = .ok (.lor, 1) := by decide +kernel
theorem dX10_turned_10 : decode cX10_turned 10 = .ok (.lreturn, 1) := by decide +kernel
theorem dX10_block_0 : decode cX10_block 0 = .ok (.iconst 0, 1) := by decide +kernel
theorem dX10_block_1 : decode cX10_block 1 = .ok (.istore_n 2, 1) := by decide +kernel
theorem dX10_block_2 : decode cX10_block 2 = .ok (.iload_n 2, 1) := by decide +kernel
theorem dX10_block_3 : decode cX10_block 3 = .ok (.bipush 16, 2) := by decide +kernel
theorem dX10_block_5 : decode cX10_block 5 = .ok (.if_icmp .ge 55, 3) := by decide +kernel
theorem dX10_block_8 : decode cX10_block 8 = .ok (.lconst 0, 1) := by decide +kernel
theorem dX10_block_9 : decode cX10_block 9 = .ok (.lstore_n 3, 1) := by decide +kernel
theorem dX10_block_10 : decode cX10_block 10 = .ok (.iconst 0, 1) := by decide +kernel
theorem dX10_block_11 : decode cX10_block 11 = .ok (.istore 5, 2) := by decide +kernel
theorem dX10_block_13 : decode cX10_block 13 = .ok (.iload 5, 2) := by decide +kernel
theorem dX10_block_15 : decode cX10_block 15 = .ok (.bipush 8, 2) := by decide +kernel
theorem dX10_block_17 : decode cX10_block 17 = .ok (.if_icmp .ge 30, 3) := by decide +kernel
theorem dX10_block_20 : decode cX10_block 20 = .ok (.lload_n 3, 1) := by decide +kernel
theorem dX10_block_21 : decode cX10_block 21 = .ok (.bipush 8, 2) := by decide +kernel
theorem dX10_block_23 : decode cX10_block 23 = .ok (.lshl, 1) := by decide +kernel
theorem dX10_block_24 : decode cX10_block 24 = .ok (.aload_n 0, 1) := by decide +kernel
theorem dX10_block_25 : decode cX10_block 25 = .ok (.getfield 45, 3) := by decide +kernel
theorem dX10_block_28 : decode cX10_block 28 = .ok (.iload_n 1, 1) := by decide +kernel
theorem dX10_block_29 : decode cX10_block 29 = .ok (.bipush 8, 2) := by decide +kernel
theorem dX10_block_31 : decode cX10_block 31 = .ok (.iload_n 2, 1) := by decide +kernel
theorem dX10_block_32 : decode cX10_block 32 = .ok (.imul, 1) := by decide +kernel
theorem dX10_block_33 : decode cX10_block 33 = .ok (.iadd, 1) := by decide +kernel
theorem dX10_block_34 : decode cX10_block 34 = .ok (.iload 5, 2) := by decide +kernel
theorem dX10_block_36 : decode cX10_block 36 = .ok (.iadd, 1) := by decide +kernel
theorem dX10_block_37 : decode cX10_block 37 = .ok (.iaload, 1) := by decide +kernel
theorem dX10_block_38 : decode cX10_block 38 = .ok (.i2l, 1) := by decide +kernel
theorem dX10_block_39 : decode cX10_block 39 = .ok (.lor, 1) := by decide +kernel
theorem dX10_block_40 : decode cX10_block 40 = .ok (.lstore_n 3, 1) := by decide +kernel
theorem dX10_block_41 : decode cX10_block 41 = .ok (.iinc 5 1, 3) := by decide +kernel
theorem dX10_block_44 : decode cX10_block 44 = .ok (.goto (-31), 3) := by decide +kernel
theorem dX10_block_47 : decode cX10_block 47 = .ok (.aload_n 0, 1) := by decide +kernel
theorem dX10_block_48 : decode cX10_block 48 = .ok (.getfield 48, 3) := by decide +kernel
theorem dX10_block_51 : decode cX10_block 51 = .ok (.iload_n 2, 1) := by decide +kernel
theorem dX10_block_52 : decode cX10_block 52 = .ok (.lload_n 3, 1) := by decide +kernel
theorem dX10_block_53 : decode cX10_block 53 = .ok (.lastore, 1) := by decide +kernel
theorem dX10_block_54 : decode cX10_block 54 = .ok (.iinc 2 1, 3) := by decide +kernel
theorem dX10_block_57 : decode cX10_block 57 = .ok (.goto (-55), 3) := by decide +kernel
theorem dX10_block_60 : decode cX10_block 60 = .ok (.bipush 16, 2) := by decide +kernel
theorem dX10_block_62 : decode cX10_block 62 = .ok (.istore_n 2, 1) := by decide +kernel
theorem dX10_block_63 : decode cX10_block 63 = .ok (.iload_n 2, 1) := by decide +kernel
theorem dX10_block_64 : decode cX10_block 64 = .ok (.bipush 80, 2) := by decide +kernel
theorem dX10_block_66 : decode cX10_block 66 = .ok (.if_icmp .ge 94, 3) := by decide +kernel
theorem dX10_block_69 : decode cX10_block 69 = .ok (.aload_n 0, 1) := by decide +kernel
theorem dX10_block_70 : decode cX10_block 70 = .ok (.getfield 48, 3) := by decide +kernel
theorem dX10_block_73 : decode cX10_block 73 = .ok (.iload_n 2, 1) := by decide +kernel
theorem dX10_block_74 : decode cX10_block 74 = .ok (.bipush 15, 2) := by decide +kernel
theorem dX10_block_76 : decode cX10_block 76 = .ok (.isub, 1) := by decide +kernel
theorem dX10_block_77 : decode cX10_block 77 = .ok (.laload, 1) := by decide +kernel
theorem dX10_block_78 : decode cX10_block 78 = .ok (.lstore_n 3, 1) := by decide +kernel
theorem dX10_block_79 : decode cX10_block 79 = .ok (.aload_n 0, 1) := by decide +kernel
theorem dX10_block_80 : decode cX10_block 80 = .ok (.getfield 48, 3) := by decide +kernel
theorem dX10_block_83 : decode cX10_block 83 = .ok (.iload_n 2, 1) := by decide +kernel
theorem dX10_block_84 : decode cX10_block 84 = .ok (.iconst 2, 1) := by decide +kernel
theorem dX10_block_85 : decode cX10_block 85 = .ok (.isub, 1) := by decide +kernel
theorem dX10_block_86 : decode cX10_block 86 = .ok (.laload, 1) := by decide +kernel
theorem dX10_block_87 : decode cX10_block 87 = .ok (.lstore 5, 2) := by decide +kernel
theorem dX10_block_89 : decode cX10_block 89 = .ok (.aload_n 0, 1) := by decide +kernel
theorem dX10_block_90 : decode cX10_block 90 = .ok (.getfield 48, 3) := by decide +kernel
theorem dX10_block_93 : decode cX10_block 93 = .ok (.iload_n 2, 1) := by decide +kernel
theorem dX10_block_94 : decode cX10_block 94 = .ok (.aload_n 0, 1) := by decide +kernel
theorem dX10_block_95 : decode cX10_block 95 = .ok (.getfield 48, 3) := by decide +kernel
theorem dX10_block_98 : decode cX10_block 98 = .ok (.iload_n 2, 1) := by decide +kernel
theorem dX10_block_99 : decode cX10_block 99 = .ok (.bipush 16, 2) := by decide +kernel
theorem dX10_block_101 : decode cX10_block 101 = .ok (.isub, 1) := by decide +kernel
theorem dX10_block_102 : decode cX10_block 102 = .ok (.laload, 1) := by decide +kernel
theorem dX10_block_103 : decode cX10_block 103 = .ok (.lload_n 3, 1) := by decide +kernel
theorem dX10_block_104 : decode cX10_block 104 = .ok (.iconst 1, 1) := by decide +kernel
theorem dX10_block_105 : decode cX10_block 105 = .ok (.invokestatic 206, 3) := by decide +kernel
theorem dX10_block_108 : decode cX10_block 108 = .ok (.lload_n 3, 1) := by decide +kernel
theorem dX10_block_109 : decode cX10_block 109 = .ok (.bipush 8, 2) := by decide +kernel
theorem dX10_block_111 : decode cX10_block 111 = .ok (.invokestatic 206, 3) := by decide +kernel
theorem dX10_block_114 : decode cX10_block 114 = .ok (.lxor, 1) := by decide +kernel
theorem dX10_block_115 : decode cX10_block 115 = .ok (.lload_n 3, 1) := by decide +kernel
theorem dX10_block_116 : decode cX10_block 116 = .ok (.bipush 7, 2) := by decide +kernel
theorem dX10_block_118 : decode cX10_block 118 = .ok (.lushr, 1) := by decide +kernel
theorem dX10_block_119 : decode cX10_block 119 = .ok (.lxor, 1) := by decide +kernel
theorem dX10_block_120 : decode cX10_block 120 = .ok (.ladd, 1) := by decide +kernel
theorem dX10_block_121 : decode cX10_block 121 = .ok (.aload_n 0, 1) := by decide +kernel
theorem dX10_block_122 : decode cX10_block 122 = .ok (.getfield 48, 3) := by decide +kernel
theorem dX10_block_125 : decode cX10_block 125 = .ok (.iload_n 2, 1) := by decide +kernel
theorem dX10_block_126 : decode cX10_block 126 = .ok (.bipush 7, 2) := by decide +kernel
theorem dX10_block_128 : decode cX10_block 128 = .ok (.isub, 1) := by decide +kernel
theorem dX10_block_129 : decode cX10_block 129 = .ok (.laload, 1) := by decide +kernel
theorem dX10_block_130 : decode cX10_block 130 = .ok (.ladd, 1) := by decide +kernel
theorem dX10_block_131 : decode cX10_block 131 = .ok (.lload 5, 2) := by decide +kernel
theorem dX10_block_133 : decode cX10_block 133 = .ok (.bipush 19, 2) := by decide +kernel
theorem dX10_block_135 : decode cX10_block 135 = .ok (.invokestatic 206, 3) := by decide +kernel
theorem dX10_block_138 : decode cX10_block 138 = .ok (.lload 5, 2) := by decide +kernel
theorem dX10_block_140 : decode cX10_block 140 = .ok (.bipush 61, 2) := by decide +kernel
theorem dX10_block_142 : decode cX10_block 142 = .ok (.invokestatic 206, 3) := by decide +kernel
theorem dX10_block_145 : decode cX10_block 145 = .ok (.lxor, 1) := by decide +kernel
theorem dX10_block_146 : decode cX10_block 146 = .ok (.lload 5, 2) := by decide +kernel
theorem dX10_block_148 : decode cX10_block 148 = .ok (.bipush 6, 2) := by decide +kernel
theorem dX10_block_150 : decode cX10_block 150 = .ok (.lushr, 1) := by decide +kernel
theorem dX10_block_151 : decode cX10_block 151 = .ok (.lxor, 1) := by decide +kernel
theorem dX10_block_152 : decode cX10_block 152 = .ok (.ladd, 1) := by decide +kernel
theorem dX10_block_153 : decode cX10_block 153 = .ok (.lastore, 1) := by decide +kernel
theorem dX10_block_154 : decode cX10_block 154 = .ok (.iinc 2 1, 3) := by decide +kernel
theorem dX10_block_157 : decode cX10_block 157 = .ok (.goto (-94), 3) := by decide +kernel
theorem dX10_block_160 : decode cX10_block 160 = .ok (.iconst 0, 1) := by decide +kernel
theorem dX10_block_161 : decode cX10_block 161 = .ok (.istore_n 2, 1) := by decide +kernel
theorem dX10_block_162 : decode cX10_block 162 = .ok (.iload_n 2, 1) := by decide +kernel
theorem dX10_block_163 : decode cX10_block 163 = .ok (.bipush 8, 2) := by decide +kernel
theorem dX10_block_165 : decode cX10_block 165 = .ok (.if_icmp .ge 21, 3) := by decide +kernel
theorem dX10_block_168 : decode cX10_block 168 = .ok (.aload_n 0, 1) := by decide +kernel
theorem dX10_block_169 : decode cX10_block 169 = .ok (.getfield 54, 3) := by decide +kernel
theorem dX10_block_172 : decode cX10_block 172 = .ok (.iload_n 2, 1) := by decide +kernel
theorem dX10_block_173 : decode cX10_block 173 = .ok (.aload_n 0, 1) := by decide +kernel
theorem dX10_block_174 : decode cX10_block 174 = .ok (.getfield 51, 3) := by decide +kernel
theorem dX10_block_177 : decode cX10_block 177 = .ok (.iload_n 2, 1) := by decide +kernel
theorem dX10_block_178 : decode cX10_block 178 = .ok (.laload, 1) := by decide +kernel
theorem dX10_block_179 : decode cX10_block 179 = .ok (.lastore, 1) := by decide +kernel
theorem dX10_block_180 : decode cX10_block 180 = .ok (.iinc 2 1, 3) := by decide +kernel
theorem dX10_block_183 : decode cX10_block 183 = .ok (.goto (-21), 3) := by decide +kernel
theorem dX10_block_186 : decode cX10_block 186 = .ok (.iconst 0, 1) := by decide +kernel
theorem dX10_block_187 : decode cX10_block 187 = .ok (.istore_n 2, 1) := by decide +kernel
theorem dX10_block_188 : decode cX10_block 188 = .ok (.iload_n 2, 1) := by decide +kernel
theorem dX10_block_189 : decode cX10_block 189 = .ok (.bipush 80, 2) := by decide +kernel
theorem dX10_block_191 : decode cX10_block 191 = .ok (.if_icmp .ge 230, 3) := by decide +kernel
theorem dX10_block_194 : decode cX10_block 194 = .ok (.aload_n 0, 1) := by decide +kernel
theorem dX10_block_195 : decode cX10_block 195 = .ok (.getfield 54, 3) := by decide +kernel
theorem dX10_block_198 : decode cX10_block 198 = .ok (.bipush 7, 2) := by decide +kernel
theorem dX10_block_200 : decode cX10_block 200 = .ok (.laload, 1) := by decide +kernel
theorem dX10_block_201 : decode cX10_block 201 = .ok (.aload_n 0, 1) := by decide +kernel
theorem dX10_block_202 : decode cX10_block 202 = .ok (.getfield 54, 3) := by decide +kernel
theorem dX10_block_205 : decode cX10_block 205 = .ok (.iconst 4, 1) := by decide +kernel
theorem dX10_block_206 : decode cX10_block 206 = .ok (.laload, 1) := by decide +kernel
theorem dX10_block_207 : decode cX10_block 207 = .ok (.bipush 14, 2) := by decide +kernel
theorem dX10_block_209 : decode cX10_block 209 = .ok (.invokestatic 206, 3) := by decide +kernel
theorem dX10_block_212 : decode cX10_block 212 = .ok (.aload_n 0, 1) := by decide +kernel
theorem dX10_block_213 : decode cX10_block 213 = .ok (.getfield 54, 3) := by decide +kernel
theorem dX10_block_216 : decode cX10_block 216 = .ok (.iconst 4, 1) := by decide +kernel
theorem dX10_block_217 : decode cX10_block 217 = .ok (.laload, 1) := by decide +kernel
theorem dX10_block_218 : decode cX10_block 218 = .ok (.bipush 18, 2) := by decide +kernel
theorem dX10_block_220 : decode cX10_block 220 = .ok (.invokestatic 206, 3) := by decide +kernel
theorem dX10_block_223 : decode cX10_block 223 = .ok (.lxor, 1) := by decide +kernel
theorem dX10_block_224 : decode cX10_block 224 = .ok (.aload_n 0, 1) := by decide +kernel
theorem dX10_block_225 : decode cX10_block 225 = .ok (.getfield 54, 3) := by decide +kernel
theorem dX10_block_228 : decode cX10_block 228 = .ok (.iconst 4, 1) := by decide +kernel
theorem dX10_block_229 : decode cX10_block 229 = .ok (.laload, 1) := by decide +kernel
theorem dX10_block_230 : decode cX10_block 230 = .ok (.bipush 41, 2) := by decide +kernel
theorem dX10_block_232 : decode cX10_block 232 = .ok (.invokestatic 206, 3) := by decide +kernel
theorem dX10_block_235 : decode cX10_block 235 = .ok (.lxor, 1) := by decide +kernel
theorem dX10_block_236 : decode cX10_block 236 = .ok (.ladd, 1) := by decide +kernel
theorem dX10_block_237 : decode cX10_block 237 = .ok (.aload_n 0, 1) := by decide +kernel
theorem dX10_block_238 : decode cX10_block 238 = .ok (.getfield 54, 3) := by decide +kernel
theorem dX10_block_241 : decode cX10_block 241 = .ok (.iconst 4, 1) := by decide +kernel
theorem dX10_block_242 : decode cX10_block 242 = .ok (.laload, 1) := by decide +kernel
theorem dX10_block_243 : decode cX10_block 243 = .ok (.aload_n 0, 1) := by decide +kernel
theorem dX10_block_244 : decode cX10_block 244 = .ok (.getfield 54, 3) := by decide +kernel
theorem dX10_block_247 : decode cX10_block 247 = .ok (.iconst 5, 1) := by decide +kernel
theorem dX10_block_248 : decode cX10_block 248 = .ok (.laload, 1) := by decide +kernel
theorem dX10_block_249 : decode cX10_block 249 = .ok (.land, 1) := by decide +kernel
theorem dX10_block_250 : decode cX10_block 250 = .ok (.aload_n 0, 1) := by decide +kernel
theorem dX10_block_251 : decode cX10_block 251 = .ok (.getfield 54, 3) := by decide +kernel
theorem dX10_block_254 : decode cX10_block 254 = .ok (.iconst 4, 1) := by decide +kernel
theorem dX10_block_255 : decode cX10_block 255 = .ok (.laload, 1) := by decide +kernel
theorem dX10_block_256 : decode cX10_block 256 = .ok (.ldc2_w 68, 3) := by decide +kernel
theorem dX10_block_259 : decode cX10_block 259 = .ok (.lxor, 1) := by decide +kernel
theorem dX10_block_260 : decode cX10_block 260 = .ok (.aload_n 0, 1) := by decide +kernel
theorem dX10_block_261 : decode cX10_block 261 = .ok (.getfield 54, 3) := by decide +kernel
theorem dX10_block_264 : decode cX10_block 264 = .ok (.bipush 6, 2) := by decide +kernel
theorem dX10_block_266 : decode cX10_block 266 = .ok (.laload, 1) := by decide +kernel
theorem dX10_block_267 : decode cX10_block 267 = .ok (.land, 1) := by decide +kernel
theorem dX10_block_268 : decode cX10_block 268 = .ok (.lxor, 1) := by decide +kernel
theorem dX10_block_269 : decode cX10_block 269 = .ok (.ladd, 1) := by decide +kernel
theorem dX10_block_270 : decode cX10_block 270 = .ok (.aload_n 0, 1) := by decide +kernel
theorem dX10_block_271 : decode cX10_block 271 = .ok (.getfield 33, 3) := by decide +kernel
theorem dX10_block_274 : decode cX10_block 274 = .ok (.iload_n 2, 1) := by decide +kernel
theorem dX10_block_275 : decode cX10_block 275 = .ok (.laload, 1) := by decide +kernel
theorem dX10_block_276 : decode cX10_block 276 = .ok (.ladd, 1) := by decide +kernel
theorem dX10_block_277 : decode cX10_block 277 = .ok (.aload_n 0, 1) := by decide +kernel
theorem dX10_block_278 : decode cX10_block 278 = .ok (.getfield 48, 3) := by decide +kernel
theorem dX10_block_281 : decode cX10_block 281 = .ok (.iload_n 2, 1) := by decide +kernel
theorem dX10_block_282 : decode cX10_block 282 = .ok (.laload, 1) := by decide +kernel
theorem dX10_block_283 : decode cX10_block 283 = .ok (.ladd, 1) := by decide +kernel
theorem dX10_block_284 : decode cX10_block 284 = .ok (.lstore_n 3, 1) := by decide +kernel
theorem dX10_block_285 : decode cX10_block 285 = .ok (.aload_n 0, 1) := by decide +kernel
theorem dX10_block_286 : decode cX10_block 286 = .ok (.getfield 54, 3) := by decide +kernel
theorem dX10_block_289 : decode cX10_block 289 = .ok (.iconst 0, 1) := by decide +kernel
theorem dX10_block_290 : decode cX10_block 290 = .ok (.laload, 1) := by decide +kernel
theorem dX10_block_291 : decode cX10_block 291 = .ok (.bipush 28, 2) := by decide +kernel
theorem dX10_block_293 : decode cX10_block 293 = .ok (.invokestatic 206, 3) := by decide +kernel
theorem dX10_block_296 : decode cX10_block 296 = .ok (.aload_n 0, 1) := by decide +kernel
theorem dX10_block_297 : decode cX10_block 297 = .ok (.getfield 54, 3) := by decide +kernel
theorem dX10_block_300 : decode cX10_block 300 = .ok (.iconst 0, 1) := by decide +kernel
theorem dX10_block_301 : decode cX10_block 301 = .ok (.laload, 1) := by decide +kernel
theorem dX10_block_302 : decode cX10_block 302 = .ok (.bipush 34, 2) := by decide +kernel
theorem dX10_block_304 : decode cX10_block 304 = .ok (.invokestatic 206, 3) := by decide +kernel
theorem dX10_block_307 : decode cX10_block 307 = .ok (.lxor, 1) := by decide +kernel
theorem dX10_block_308 : decode cX10_block 308 = .ok (.aload_n 0, 1) := by decide +kernel
theorem dX10_block_309 : decode cX10_block 309 = .ok (.getfield 54, 3) := by decide +kernel
theorem dX10_block_312 : decode cX10_block 312 = .ok (.iconst 0, 1) := by decide +kernel
theorem dX10_block_313 : decode cX10_block 313 = .ok (.laload, 1) := by decide +kernel
theorem dX10_block_314 : decode cX10_block 314 = .ok (.bipush 39, 2) := by decide +kernel
theorem dX10_block_316 : decode cX10_block 316 = .ok (.invokestatic 206, 3) := by decide +kernel
theorem dX10_block_319 : decode cX10_block 319 = .ok (.lxor, 1) := by decide +kernel
theorem dX10_block_320 : decode cX10_block 320 = .ok (.aload_n 0, 1) := by decide +kernel
theorem dX10_block_321 : decode cX10_block 321 = .ok (.getfield 54, 3) := by decide +kernel
theorem dX10_block_324 : decode cX10_block 324 = .ok (.iconst 0, 1) := by decide +kernel
theorem dX10_block_325 : decode cX10_block 325 = .ok (.laload, 1) := by decide +kernel
theorem dX10_block_326 : decode cX10_block 326 = .ok (.aload_n 0, 1) := by decide +kernel
theorem dX10_block_327 : decode cX10_block 327 = .ok (.getfield 54, 3) := by decide +kernel
theorem dX10_block_330 : decode cX10_block 330 = .ok (.iconst 1, 1) := by decide +kernel
theorem dX10_block_331 : decode cX10_block 331 = .ok (.laload, 1) := by decide +kernel
theorem dX10_block_332 : decode cX10_block 332 = .ok (.land, 1) := by decide +kernel
theorem dX10_block_333 : decode cX10_block 333 = .ok (.aload_n 0, 1) := by decide +kernel
theorem dX10_block_334 : decode cX10_block 334 = .ok (.getfield 54, 3) := by decide +kernel
theorem dX10_block_337 : decode cX10_block 337 = .ok (.iconst 0, 1) := by decide +kernel
theorem dX10_block_338 : decode cX10_block 338 = .ok (.laload, 1) := by decide +kernel
theorem dX10_block_339 : decode cX10_block 339 = .ok (.aload_n 0, 1) := by decide +kernel
theorem dX10_block_340 : decode cX10_block 340 = .ok (.getfield 54, 3) := by decide +kernel
theorem dX10_block_343 : decode cX10_block 343 = .ok (.iconst 2, 1) := by decide +kernel
theorem dX10_block_344 : decode cX10_block 344 = .ok (.laload, 1) := by decide +kernel
theorem dX10_block_345 : decode cX10_block 345 = .ok (.land, 1) := by decide +kernel
theorem dX10_block_346 : decode cX10_block 346 = .ok (.lxor, 1) := by decide +kernel
theorem dX10_block_347 : decode cX10_block 347 = .ok (.aload_n 0, 1) := by decide +kernel
theorem dX10_block_348 : decode cX10_block 348 = .ok (.getfield 54, 3) := by decide +kernel
theorem dX10_block_351 : decode cX10_block 351 = .ok (.iconst 1, 1) := by decide +kernel
theorem dX10_block_352 : decode cX10_block 352 = .ok (.laload, 1) := by decide +kernel
theorem dX10_block_353 : decode cX10_block 353 = .ok (.aload_n 0, 1) := by decide +kernel
theorem dX10_block_354 : decode cX10_block 354 = .ok (.getfield 54, 3) := by decide +kernel
theorem dX10_block_357 : decode cX10_block 357 = .ok (.iconst 2, 1) := by decide +kernel
theorem dX10_block_358 : decode cX10_block 358 = .ok (.laload, 1) := by decide +kernel
theorem dX10_block_359 : decode cX10_block 359 = .ok (.land, 1) := by decide +kernel
theorem dX10_block_360 : decode cX10_block 360 = .ok (.lxor, 1) := by decide +kernel
theorem dX10_block_361 : decode cX10_block 361 = .ok (.ladd, 1) := by decide +kernel
theorem dX10_block_362 : decode cX10_block 362 = .ok (.lstore 5, 2) := by decide +kernel
theorem dX10_block_364 : decode cX10_block 364 = .ok (.bipush 7, 2) := by decide +kernel
theorem dX10_block_366 : decode cX10_block 366 = .ok (.istore 7, 2) := by decide +kernel
theorem dX10_block_368 : decode cX10_block 368 = .ok (.iload 7, 2) := by decide +kernel
theorem dX10_block_370 : decode cX10_block 370 = .ok (.ifCond .le 25, 3) := by decide +kernel
theorem dX10_block_373 : decode cX10_block 373 = .ok (.aload_n 0, 1) := by decide +kernel
theorem dX10_block_374 : decode cX10_block 374 = .ok (.getfield 54, 3) := by decide +kernel
theorem dX10_block_377 : decode cX10_block 377 = .ok (.iload 7, 2) := by decide +kernel
theorem dX10_block_379 : decode cX10_block 379 = .ok (.aload_n 0, 1) := by decide +kernel
theorem dX10_block_380 : decode cX10_block 380 = .ok (.getfield 54, 3) := by decide +kernel
theorem dX10_block_383 : decode cX10_block 383 = .ok (.iload 7, 2) := by decide +kernel
theorem dX10_block_385 : decode cX10_block 385 = .ok (.iconst 1, 1) := by decide +kernel
theorem dX10_block_386 : decode cX10_block 386 = .ok (.isub, 1) := by decide +kernel
theorem dX10_block_387 : decode cX10_block 387 = .ok (.laload, 1) := by decide +kernel
theorem dX10_block_388 : decode cX10_block 388 = .ok (.lastore, 1) := by decide +kernel
theorem dX10_block_389 : decode cX10_block 389 = .ok (.iinc 7 (-1), 3) := by decide +kernel
theorem dX10_block_392 : decode cX10_block 392 = .ok (.goto (-24), 3) := by decide +kernel
theorem dX10_block_395 : decode cX10_block 395 = .ok (.aload_n 0, 1) := by decide +kernel
theorem dX10_block_396 : decode cX10_block 396 = .ok (.getfield 54, 3) := by decide +kernel
theorem dX10_block_399 : decode cX10_block 399 = .ok (.iconst 4, 1) := by decide +kernel
theorem dX10_block_400 : decode cX10_block 400 = .ok (.dup2, 1) := by decide +kernel
theorem dX10_block_401 : decode cX10_block 401 = .ok (.laload, 1) := by decide +kernel
theorem dX10_block_402 : decode cX10_block 402 = .ok (.lload_n 3, 1) := by decide +kernel
theorem dX10_block_403 : decode cX10_block 403 = .ok (.ladd, 1) := by decide +kernel
theorem dX10_block_404 : decode cX10_block 404 = .ok (.lastore, 1) := by decide +kernel
theorem dX10_block_405 : decode cX10_block 405 = .ok (.aload_n 0, 1) := by decide +kernel
theorem dX10_block_406 : decode cX10_block 406 = .ok (.getfield 54, 3) := by decide +kernel
theorem dX10_block_409 : decode cX10_block 409 = .ok (.iconst 0, 1) := by decide +kernel
theorem dX10_block_410 : decode cX10_block 410 = .ok (.lload_n 3, 1) := by decide +kernel
theorem dX10_block_411 : decode cX10_block 411 = .ok (.lload 5, 2) := by decide +kernel
theorem dX10_block_413 : decode cX10_block 413 = .ok (.ladd, 1) := by decide +kernel
theorem dX10_block_414 : decode cX10_block 414 = .ok (.lastore, 1) := by decide +kernel
theorem dX10_block_415 : decode cX10_block 415 = .ok (.iinc 2 1, 3) := by decide +kernel
theorem dX10_block_418 : decode cX10_block 418 = .ok (.goto (-230), 3) := by decide +kernel
theorem dX10_block_421 : decode cX10_block 421 = .ok (.iconst 0, 1) := by decide +kernel
theorem dX10_block_422 : decode cX10_block 422 = .ok (.istore_n 2, 1) := by decide +kernel
theorem dX10_block_423 : decode cX10_block 423 = .ok (.iload_n 2, 1) := by decide +kernel
theorem dX10_block_424 : decode cX10_block 424 = .ok (.bipush 8, 2) := by decide +kernel
theorem dX10_block_426 : decode cX10_block 426 = .ok (.if_icmp .ge 24, 3) := by decide +kernel
theorem dX10_block_429 : decode cX10_block 429 = .ok (.aload_n 0, 1) := by decide +kernel
theorem dX10_block_430 : decode cX10_block 430 = .ok (.getfield 51, 3) := by decide +kernel
theorem dX10_block_433 : decode cX10_block 433 = .ok (.iload_n 2, 1) := by decide +kernel
theorem dX10_block_434 : decode cX10_block 434 = .ok (.dup2, 1) := by decide +kernel
theorem dX10_block_435 : decode cX10_block 435 = .ok (.laload, 1) := by decide +kernel
theorem dX10_block_436 : decode cX10_block 436 = .ok (.aload_n 0, 1) := by decide +kernel
theorem dX10_block_437 : decode cX10_block 437 = .ok (.getfield 54, 3) := by decide +kernel
theorem dX10_block_440 : decode cX10_block 440 = .ok (.iload_n 2, 1) := by decide +kernel
theorem dX10_block_441 : decode cX10_block 441 = .ok (.laload, 1) := by decide +kernel
theorem dX10_block_442 : decode cX10_block 442 = .ok (.ladd, 1) := by decide +kernel
theorem dX10_block_443 : decode cX10_block 443 = .ok (.lastore, 1) := by decide +kernel
theorem dX10_block_444 : decode cX10_block 444 = .ok (.iinc 2 1, 3) := by decide +kernel
theorem dX10_block_447 : decode cX10_block 447 = .ok (.goto (-24), 3) := by decide +kernel
theorem dX10_block_450 : decode cX10_block 450 = .ok (.return_, 1) := by decide +kernel
theorem dX10_digests_0 : decode cX10_digests 0 = .ok (.aload_n 0, 1) := by decide +kernel
theorem dX10_digests_1 : decode cX10_digests 1 = .ok (.getfield 197, 3) := by decide +kernel
theorem dX10_digests_4 : decode cX10_digests 4 = .ok (.istore_n 1, 1) := by decide +kernel
theorem dX10_digests_5 : decode cX10_digests 5 = .ok (.aload_n 0, 1) := by decide +kernel
theorem dX10_digests_6 : decode cX10_digests 6 = .ok (.sipush 128, 3) := by decide +kernel
theorem dX10_digests_9 : decode cX10_digests 9 = .ok (.invokevirtual 200, 3) := by decide +kernel
theorem dX10_digests_12 : decode cX10_digests 12 = .ok (.aload_n 0, 1) := by decide +kernel
theorem dX10_digests_13 : decode cX10_digests 13 = .ok (.getfield 197, 3) := by decide +kernel
theorem dX10_digests_16 : decode cX10_digests 16 = .ok (.sipush 128, 3) := by decide +kernel
theorem dX10_digests_19 : decode cX10_digests 19 = .ok (.irem, 1) := by decide +kernel
theorem dX10_digests_20 : decode cX10_digests 20 = .ok (.bipush 112, 2) := by decide +kernel
theorem dX10_digests_22 : decode cX10_digests 22 = .ok (.if_icmp .eq 11, 3) := by decide +kernel
theorem dX10_digests_25 : decode cX10_digests 25 = .ok (.aload_n 0, 1) := by decide +kernel
theorem dX10_digests_26 : decode cX10_digests 26 = .ok (.iconst 0, 1) := by decide +kernel
theorem dX10_digests_27 : decode cX10_digests 27 = .ok (.invokevirtual 200, 3) := by decide +kernel
theorem dX10_digests_30 : decode cX10_digests 30 = .ok (.goto (-18), 3) := by decide +kernel
theorem dX10_digests_33 : decode cX10_digests 33 = .ok (.bipush 15, 2) := by decide +kernel
theorem dX10_digests_35 : decode cX10_digests 35 = .ok (.istore_n 2, 1) := by decide +kernel
theorem dX10_digests_36 : decode cX10_digests 36 = .ok (.iload_n 2, 1) := by decide +kernel
theorem dX10_digests_37 : decode cX10_digests 37 = .ok (.ifCond .lt 35, 3) := by decide +kernel
theorem dX10_digests_40 : decode cX10_digests 40 = .ok (.aload_n 0, 1) := by decide +kernel
theorem dX10_digests_41 : decode cX10_digests 41 = .ok (.iload_n 2, 1) := by decide +kernel
theorem dX10_digests_42 : decode cX10_digests 42 = .ok (.iconst 3, 1) := by decide +kernel
theorem dX10_digests_43 : decode cX10_digests 43 = .ok (.if_icmp .le 7, 3) := by decide +kernel
theorem dX10_digests_46 : decode cX10_digests 46 = .ok (.iconst 0, 1) := by decide +kernel
theorem dX10_digests_47 : decode cX10_digests 47 = .ok (.goto 16, 3) := by decide +kernel
theorem dX10_digests_50 : decode cX10_digests 50 = .ok (.bipush 8, 2) := by decide +kernel
theorem dX10_digests_52 : decode cX10_digests 52 = .ok (.iload_n 1, 1) := by decide +kernel
theorem dX10_digests_53 : decode cX10_digests 53 = .ok (.imul, 1) := by decide +kernel
theorem dX10_digests_54 : decode cX10_digests 54 = .ok (.bipush 8, 2) := by decide +kernel
theorem dX10_digests_56 : decode cX10_digests 56 = .ok (.iload_n 2, 1) := by decide +kernel
theorem dX10_digests_57 : decode cX10_digests 57 = .ok (.imul, 1) := by decide +kernel
theorem dX10_digests_58 : decode cX10_digests 58 = .ok (.iushr, 1) := by decide +kernel
theorem dX10_digests_59 : decode cX10_digests 59 = .ok (.sipush 255, 3) := by decide +kernel
theorem dX10_digests_62 : decode cX10_digests 62 = .ok (.iand, 1) := by decide +kernel
theorem dX10_digests_63 : decode cX10_digests 63 = .ok (.invokevirtual 200, 3) := by decide +kernel
theorem dX10_digests_66 : decode cX10_digests 66 = .ok (.iinc 2 (-1), 3) := by decide +kernel
theorem dX10_digests_69 : decode cX10_digests 69 = .ok (.goto (-33), 3) := by decide +kernel
theorem dX10_digests_72 : decode cX10_digests 72 = .ok (.iconst 0, 1) := by decide +kernel
theorem dX10_digests_73 : decode cX10_digests 73 = .ok (.istore_n 2, 1) := by decide +kernel
theorem dX10_digests_74 : decode cX10_digests 74 = .ok (.iload_n 2, 1) := by decide +kernel
theorem dX10_digests_75 : decode cX10_digests 75 = .ok (.bipush 8, 2) := by decide +kernel
theorem dX10_digests_77 : decode cX10_digests 77 = .ok (.if_icmp .ge 21, 3) := by decide +kernel
theorem dX10_digests_80 : decode cX10_digests 80 = .ok (.aload_n 0, 1) := by decide +kernel
theorem dX10_digests_81 : decode cX10_digests 81 = .ok (.getfield 51, 3) := by decide +kernel
theorem dX10_digests_84 : decode cX10_digests 84 = .ok (.iload_n 2, 1) := by decide +kernel
theorem dX10_digests_85 : decode cX10_digests 85 = .ok (.aload_n 0, 1) := by decide +kernel
theorem dX10_digests_86 : decode cX10_digests 86 = .ok (.getfield 30, 3) := by decide +kernel
theorem dX10_digests_89 : decode cX10_digests 89 = .ok (.iload_n 2, 1) := by decide +kernel
theorem dX10_digests_90 : decode cX10_digests 90 = .ok (.laload, 1) := by decide +kernel
theorem dX10_digests_91 : decode cX10_digests 91 = .ok (.lastore, 1) := by decide +kernel
theorem dX10_digests_92 : decode cX10_digests 92 = .ok (.iinc 2 1, 3) := by decide +kernel
theorem dX10_digests_95 : decode cX10_digests 95 = .ok (.goto (-21), 3) := by decide +kernel
theorem dX10_digests_98 : decode cX10_digests 98 = .ok (.iconst 0, 1) := by decide +kernel
theorem dX10_digests_99 : decode cX10_digests 99 = .ok (.istore_n 2, 1) := by decide +kernel
theorem dX10_digests_100 : decode cX10_digests 100 = .ok (.iload_n 2, 1) := by decide +kernel
theorem dX10_digests_101 : decode cX10_digests 101 = .ok (.aload_n 0, 1) := by decide +kernel
theorem dX10_digests_102 : decode cX10_digests 102 = .ok (.getfield 197, 3) := by decide +kernel
theorem dX10_digests_105 : decode cX10_digests 105 = .ok (.if_icmp .ge 17, 3) := by decide +kernel
theorem dX10_digests_108 : decode cX10_digests 108 = .ok (.aload_n 0, 1) := by decide +kernel
theorem dX10_digests_109 : decode cX10_digests 109 = .ok (.iload_n 2, 1) := by decide +kernel
theorem dX10_digests_110 : decode cX10_digests 110 = .ok (.invokevirtual 210, 3) := by decide +kernel
theorem dX10_digests_113 : decode cX10_digests 113 = .ok (.iinc 2 128, 6) := by decide +kernel
theorem dX10_digests_119 : decode cX10_digests 119 = .ok (.goto (-19), 3) := by decide +kernel
theorem dX10_digests_122 : decode cX10_digests 122 = .ok (.iconst 0, 1) := by decide +kernel
theorem dX10_digests_123 : decode cX10_digests 123 = .ok (.istore_n 2, 1) := by decide +kernel
theorem dX10_digests_124 : decode cX10_digests 124 = .ok (.iload_n 2, 1) := by decide +kernel
theorem dX10_digests_125 : decode cX10_digests 125 = .ok (.bipush 64, 2) := by decide +kernel
theorem dX10_digests_127 : decode cX10_digests 127 = .ok (.if_icmp .ge 39, 3) := by decide +kernel
theorem dX10_digests_130 : decode cX10_digests 130 = .ok (.aload_n 0, 1) := by decide +kernel
theorem dX10_digests_131 : decode cX10_digests 131 = .ok (.getfield 57, 3) := by decide +kernel
theorem dX10_digests_134 : decode cX10_digests 134 = .ok (.iload_n 2, 1) := by decide +kernel
theorem dX10_digests_135 : decode cX10_digests 135 = .ok (.aload_n 0, 1) := by decide +kernel
theorem dX10_digests_136 : decode cX10_digests 136 = .ok (.getfield 51, 3) := by decide +kernel
theorem dX10_digests_139 : decode cX10_digests 139 = .ok (.iload_n 2, 1) := by decide +kernel
theorem dX10_digests_140 : decode cX10_digests 140 = .ok (.iconst 3, 1) := by decide +kernel
theorem dX10_digests_141 : decode cX10_digests 141 = .ok (.ishr, 1) := by decide +kernel
theorem dX10_digests_142 : decode cX10_digests 142 = .ok (.laload, 1) := by decide +kernel
theorem dX10_digests_143 : decode cX10_digests 143 = .ok (.bipush 8, 2) := by decide +kernel
theorem dX10_digests_145 : decode cX10_digests 145 = .ok (.bipush 7, 2) := by decide +kernel
theorem dX10_digests_147 : decode cX10_digests 147 = .ok (.iload_n 2, 1) := by decide +kernel
theorem dX10_digests_148 : decode cX10_digests 148 = .ok (.bipush 7, 2) := by decide +kernel
theorem dX10_digests_150 : decode cX10_digests 150 = .ok (.iand, 1) := by decide +kernel
theorem dX10_digests_151 : decode cX10_digests 151 = .ok (.isub, 1) := by decide +kernel
theorem dX10_digests_152 : decode cX10_digests 152 = .ok (.imul, 1) := by decide +kernel
theorem dX10_digests_153 : decode cX10_digests 153 = .ok (.lushr, 1) := by decide +kernel
theorem dX10_digests_154 : decode cX10_digests 154 = .ok (.l2i, 1) := by decide +kernel
theorem dX10_digests_155 : decode cX10_digests 155 = .ok (.sipush 255, 3) := by decide +kernel
theorem dX10_digests_158 : decode cX10_digests 158 = .ok (.iand, 1) := by decide +kernel
theorem dX10_digests_159 : decode cX10_digests 159 = .ok (.iastore, 1) := by decide +kernel
theorem dX10_digests_160 : decode cX10_digests 160 = .ok (.iinc 2 1, 3) := by decide +kernel
theorem dX10_digests_163 : decode cX10_digests 163 = .ok (.goto (-39), 3) := by decide +kernel
theorem dX10_digests_166 : decode cX10_digests 166 = .ok (.aload_n 0, 1) := by decide +kernel
theorem dX10_digests_167 : decode cX10_digests 167 = .ok (.iconst 0, 1) := by decide +kernel
theorem dX10_digests_168 : decode cX10_digests 168 = .ok (.putfield 197, 3) := by decide +kernel
theorem dX10_digests_171 : decode cX10_digests 171 = .ok (.return_, 1) := by decide +kernel
theorem dX10_digestWords_0 : decode cX10_digestWords 0 = .ok (.iconst 0, 1) := by decide +kernel
theorem dX10_digestWords_1 : decode cX10_digestWords 1 = .ok (.istore_n 3, 1) := by decide +kernel
theorem dX10_digestWords_2 : decode cX10_digestWords 2 = .ok (.iload_n 3, 1) := by decide +kernel
theorem dX10_digestWords_3 : decode cX10_digestWords 3 = .ok (.iconst 4, 1) := by decide +kernel
theorem dX10_digestWords_4 : decode cX10_digestWords 4 = .ok (.if_icmp .ge 60, 3) := by decide +kernel
theorem dX10_digestWords_7 : decode cX10_digestWords 7 = .ok (.lconst 0, 1) := by decide +kernel
theorem dX10_digestWords_8 : decode cX10_digestWords 8 = .ok (.lstore 4, 2) := by decide +kernel
theorem dX10_digestWords_10 : decode cX10_digestWords 10 = .ok (.bipush 7, 2) := by decide +kernel
theorem dX10_digestWords_12 : decode cX10_digestWords 12 = .ok (.istore 6, 2) := by decide +kernel
theorem dX10_digestWords_14 : decode cX10_digestWords 14 = .ok (.iload 6, 2) := by decide +kernel
theorem dX10_digestWords_16 : decode cX10_digestWords 16 = .ok (.ifCond .lt 32, 3) := by decide +kernel
theorem dX10_digestWords_19 : decode cX10_digestWords 19 = .ok (.lload 4, 2) := by decide +kernel
theorem dX10_digestWords_21 : decode cX10_digestWords 21 = .ok (.bipush 8, 2) := by decide +kernel
theorem dX10_digestWords_23 : decode cX10_digestWords 23 = .ok (.lshl, 1) := by decide +kernel
theorem dX10_digestWords_24 : decode cX10_digestWords 24 = .ok (.aload_n 0, 1) := by decide +kernel
theorem dX10_digestWords_25 : decode cX10_digestWords 25 = .ok (.getfield 57, 3) := by decide +kernel
theorem dX10_digestWords_28 : decode cX10_digestWords 28 = .ok (.iload_n 2, 1) := by decide +kernel
theorem dX10_digestWords_29 : decode cX10_digestWords 29 = .ok (.bipush 8, 2) := by decide +kernel
theorem dX10_digestWords_31 : decode cX10_digestWords 31 = .ok (.iload_n 3, 1) := by decide +kernel
theorem dX10_digestWords_32 : decode cX10_digestWords 32 = .ok (.imul, 1) := by decide +kernel
theorem dX10_digestWords_33 : decode cX10_digestWords 33 = .ok (.iadd, 1) := by decide +kernel
theorem dX10_digestWords_34 : decode cX10_digestWords 34 = .ok (.iload 6, 2) := by decide +kernel
theorem dX10_digestWords_36 : decode cX10_digestWords 36 = .ok (.iadd, 1) := by decide +kernel
theorem dX10_digestWords_37 : decode cX10_digestWords 37 = .ok (.iaload, 1) := by decide +kernel
theorem dX10_digestWords_38 : decode cX10_digestWords 38 = .ok (.i2l, 1) := by decide +kernel
theorem dX10_digestWords_39 : decode cX10_digestWords 39 = .ok (.lor, 1) := by decide +kernel
theorem dX10_digestWords_40 : decode cX10_digestWords 40 = .ok (.lstore 4, 2) := by decide +kernel
theorem dX10_digestWords_42 : decode cX10_digestWords 42 = .ok (.iinc 6 (-1), 3) := by decide +kernel
theorem dX10_digestWords_45 : decode cX10_digestWords 45 = .ok (.goto (-31), 3) := by decide +kernel
theorem dX10_digestWords_48 : decode cX10_digestWords 48 = .ok (.aload_n 0, 1) := by decide +kernel
theorem dX10_digestWords_49 : decode cX10_digestWords 49 = .ok (.getfield 27, 3) := by decide +kernel
theorem dX10_digestWords_52 : decode cX10_digestWords 52 = .ok (.iload_n 1, 1) := by decide +kernel
theorem dX10_digestWords_53 : decode cX10_digestWords 53 = .ok (.iload_n 3, 1) := by decide +kernel
theorem dX10_digestWords_54 : decode cX10_digestWords 54 = .ok (.iadd, 1) := by decide +kernel
theorem dX10_digestWords_55 : decode cX10_digestWords 55 = .ok (.lload 4, 2) := by decide +kernel
theorem dX10_digestWords_57 : decode cX10_digestWords 57 = .ok (.lastore, 1) := by decide +kernel
theorem dX10_digestWords_58 : decode cX10_digestWords 58 = .ok (.iinc 3 1, 3) := by decide +kernel
theorem dX10_digestWords_61 : decode cX10_digestWords 61 = .ok (.goto (-59), 3) := by decide +kernel
theorem dX10_digestWords_64 : decode cX10_digestWords 64 = .ok (.return_, 1) := by decide +kernel
theorem dX10_limb_0 : decode cX10_limb 0 = .ok (.lload_n 0, 1) := by decide +kernel
theorem dX10_limb_1 : decode cX10_limb 1 = .ok (.bipush 16, 2) := by decide +kernel
theorem dX10_limb_3 : decode cX10_limb 3 = .ok (.iload_n 2, 1) := by decide +kernel
theorem dX10_limb_4 : decode cX10_limb 4 = .ok (.imul, 1) := by decide +kernel
theorem dX10_limb_5 : decode cX10_limb 5 = .ok (.lushr, 1) := by decide +kernel
theorem dX10_limb_6 : decode cX10_limb 6 = .ok (.ldc2_w 141, 3) := by decide +kernel
theorem dX10_limb_9 : decode cX10_limb 9 = .ok (.land, 1) := by decide +kernel
theorem dX10_limb_10 : decode cX10_limb 10 = .ok (.lreturn, 1) := by decide +kernel
theorem dX10_modulo_0 : decode cX10_modulo 0 = .ok (.iconst 0, 1) := by decide +kernel
theorem dX10_modulo_1 : decode cX10_modulo 1 = .ok (.istore_n 2, 1) := by decide +kernel
theorem dX10_modulo_2 : decode cX10_modulo 2 = .ok (.iload_n 2, 1) := by decide +kernel
theorem dX10_modulo_3 : decode cX10_modulo 3 = .ok (.bipush 18, 2) := by decide +kernel
theorem dX10_modulo_5 : decode cX10_modulo 5 = .ok (.if_icmp .ge 16, 3) := by decide +kernel
theorem dX10_modulo_8 : decode cX10_modulo 8 = .ok (.aload_n 0, 1) := by decide +kernel
theorem dX10_modulo_9 : decode cX10_modulo 9 = .ok (.getfield 63, 3) := by decide +kernel
theorem dX10_modulo_12 : decode cX10_modulo 12 = .ok (.iload_n 2, 1) := by decide +kernel
theorem dX10_modulo_13 : decode cX10_modulo 13 = .ok (.lconst 0, 1) := by decide +kernel
theorem dX10_modulo_14 : decode cX10_modulo 14 = .ok (.lastore, 1) := by decide +kernel
theorem dX10_modulo_15 : decode cX10_modulo 15 = .ok (.iinc 2 1, 3) := by decide +kernel
theorem dX10_modulo_18 : decode cX10_modulo 18 = .ok (.goto (-16), 3) := by decide +kernel
theorem dX10_modulo_21 : decode cX10_modulo 21 = .ok (.sipush 543, 3) := by decide +kernel
theorem dX10_modulo_24 : decode cX10_modulo 24 = .ok (.istore_n 2, 1) := by decide +kernel
theorem dX10_modulo_25 : decode cX10_modulo 25 = .ok (.iload_n 2, 1) := by decide +kernel
theorem dX10_modulo_26 : decode cX10_modulo 26 = .ok (.ifCond .lt 89, 3) := by decide +kernel
theorem dX10_modulo_29 : decode cX10_modulo 29 = .ok (.aload_n 0, 1) := by decide +kernel
theorem dX10_modulo_30 : decode cX10_modulo 30 = .ok (.getfield 60, 3) := by decide +kernel
theorem dX10_modulo_33 : decode cX10_modulo 33 = .ok (.iload_n 2, 1) := by decide +kernel
theorem dX10_modulo_34 : decode cX10_modulo 34 = .ok (.iconst 4, 1) := by decide +kernel
theorem dX10_modulo_35 : decode cX10_modulo 35 = .ok (.ishr, 1) := by decide +kernel
theorem dX10_modulo_36 : decode cX10_modulo 36 = .ok (.laload, 1) := by decide +kernel
theorem dX10_modulo_37 : decode cX10_modulo 37 = .ok (.iload_n 2, 1) := by decide +kernel
theorem dX10_modulo_38 : decode cX10_modulo 38 = .ok (.bipush 15, 2) := by decide +kernel
theorem dX10_modulo_40 : decode cX10_modulo 40 = .ok (.iand, 1) := by decide +kernel
theorem dX10_modulo_41 : decode cX10_modulo 41 = .ok (.lshr, 1) := by decide +kernel
theorem dX10_modulo_42 : decode cX10_modulo 42 = .ok (.lconst 1, 1) := by decide +kernel
theorem dX10_modulo_43 : decode cX10_modulo 43 = .ok (.land, 1) := by decide +kernel
theorem dX10_modulo_44 : decode cX10_modulo 44 = .ok (.lstore_n 3, 1) := by decide +kernel
theorem dX10_modulo_45 : decode cX10_modulo 45 = .ok (.iconst 0, 1) := by decide +kernel
theorem dX10_modulo_46 : decode cX10_modulo 46 = .ok (.istore 5, 2) := by decide +kernel
theorem dX10_modulo_48 : decode cX10_modulo 48 = .ok (.iload 5, 2) := by decide +kernel
theorem dX10_modulo_50 : decode cX10_modulo 50 = .ok (.bipush 17, 2) := by decide +kernel
theorem dX10_modulo_52 : decode cX10_modulo 52 = .ok (.if_icmp .ge 53, 3) := by decide +kernel
theorem dX10_modulo_55 : decode cX10_modulo 55 = .ok (.aload_n 0, 1) := by decide +kernel
theorem dX10_modulo_56 : decode cX10_modulo 56 = .ok (.getfield 63, 3) := by decide +kernel
theorem dX10_modulo_59 : decode cX10_modulo 59 = .ok (.iload 5, 2) := by decide +kernel
theorem dX10_modulo_61 : decode cX10_modulo 61 = .ok (.ldc2_w 86, 3) := by decide +kernel
theorem dX10_modulo_64 : decode cX10_modulo 64 = .ok (.aload_n 0, 1) := by decide +kernel
theorem dX10_modulo_65 : decode cX10_modulo 65 = .ok (.getfield 63, 3) := by decide +kernel
theorem dX10_modulo_68 : decode cX10_modulo 68 = .ok (.iload 5, 2) := by decide +kernel
theorem dX10_modulo_70 : decode cX10_modulo 70 = .ok (.laload, 1) := by decide +kernel
theorem dX10_modulo_71 : decode cX10_modulo 71 = .ok (.lmul, 1) := by decide +kernel
theorem dX10_modulo_72 : decode cX10_modulo 72 = .ok (.lload_n 3, 1) := by decide +kernel
theorem dX10_modulo_73 : decode cX10_modulo 73 = .ok (.ladd, 1) := by decide +kernel
theorem dX10_modulo_74 : decode cX10_modulo 74 = .ok (.lastore, 1) := by decide +kernel
theorem dX10_modulo_75 : decode cX10_modulo 75 = .ok (.aload_n 0, 1) := by decide +kernel
theorem dX10_modulo_76 : decode cX10_modulo 76 = .ok (.getfield 63, 3) := by decide +kernel
theorem dX10_modulo_79 : decode cX10_modulo 79 = .ok (.iload 5, 2) := by decide +kernel
theorem dX10_modulo_81 : decode cX10_modulo 81 = .ok (.laload, 1) := by decide +kernel
theorem dX10_modulo_82 : decode cX10_modulo 82 = .ok (.bipush 16, 2) := by decide +kernel
theorem dX10_modulo_84 : decode cX10_modulo 84 = .ok (.lshr, 1) := by decide +kernel
theorem dX10_modulo_85 : decode cX10_modulo 85 = .ok (.lstore_n 3, 1) := by decide +kernel
theorem dX10_modulo_86 : decode cX10_modulo 86 = .ok (.aload_n 0, 1) := by decide +kernel
theorem dX10_modulo_87 : decode cX10_modulo 87 = .ok (.getfield 63, 3) := by decide +kernel
theorem dX10_modulo_90 : decode cX10_modulo 90 = .ok (.iload 5, 2) := by decide +kernel
theorem dX10_modulo_92 : decode cX10_modulo 92 = .ok (.dup2, 1) := by decide +kernel
theorem dX10_modulo_93 : decode cX10_modulo 93 = .ok (.laload, 1) := by decide +kernel
theorem dX10_modulo_94 : decode cX10_modulo 94 = .ok (.ldc2_w 141, 3) := by decide +kernel
theorem dX10_modulo_97 : decode cX10_modulo 97 = .ok (.land, 1) := by decide +kernel
theorem dX10_modulo_98 : decode cX10_modulo 98 = .ok (.lastore, 1) := by decide +kernel
theorem dX10_modulo_99 : decode cX10_modulo 99 = .ok (.iinc 5 1, 3) := by decide +kernel
theorem dX10_modulo_102 : decode cX10_modulo 102 = .ok (.goto (-54), 3) := by decide +kernel
theorem dX10_modulo_105 : decode cX10_modulo 105 = .ok (.aload_n 0, 1) := by decide +kernel
theorem dX10_modulo_106 : decode cX10_modulo 106 = .ok (.invokevirtual 213, 3) := by decide +kernel
theorem dX10_modulo_109 : decode cX10_modulo 109 = .ok (.iinc 2 (-1), 3) := by decide +kernel
theorem dX10_modulo_112 : decode cX10_modulo 112 = .ok (.goto (-87), 3) := by decide +kernel
theorem dX10_modulo_115 : decode cX10_modulo 115 = .ok (.iconst 0, 1) := by decide +kernel
theorem dX10_modulo_116 : decode cX10_modulo 116 = .ok (.istore_n 2, 1) := by decide +kernel
theorem dX10_modulo_117 : decode cX10_modulo 117 = .ok (.iload_n 2, 1) := by decide +kernel
theorem dX10_modulo_118 : decode cX10_modulo 118 = .ok (.iconst 4, 1) := by decide +kernel
theorem dX10_modulo_119 : decode cX10_modulo 119 = .ok (.if_icmp .ge 67, 3) := by decide +kernel
theorem dX10_modulo_122 : decode cX10_modulo 122 = .ok (.aload_n 0, 1) := by decide +kernel
theorem dX10_modulo_123 : decode cX10_modulo 123 = .ok (.getfield 27, 3) := by decide +kernel
theorem dX10_modulo_126 : decode cX10_modulo 126 = .ok (.iload_n 1, 1) := by decide +kernel
theorem dX10_modulo_127 : decode cX10_modulo 127 = .ok (.iload_n 2, 1) := by decide +kernel
theorem dX10_modulo_128 : decode cX10_modulo 128 = .ok (.iadd, 1) := by decide +kernel
theorem dX10_modulo_129 : decode cX10_modulo 129 = .ok (.aload_n 0, 1) := by decide +kernel
theorem dX10_modulo_130 : decode cX10_modulo 130 = .ok (.getfield 63, 3) := by decide +kernel
theorem dX10_modulo_133 : decode cX10_modulo 133 = .ok (.iconst 4, 1) := by decide +kernel
theorem dX10_modulo_134 : decode cX10_modulo 134 = .ok (.iload_n 2, 1) := by decide +kernel
theorem dX10_modulo_135 : decode cX10_modulo 135 = .ok (.imul, 1) := by decide +kernel
theorem dX10_modulo_136 : decode cX10_modulo 136 = .ok (.laload, 1) := by decide +kernel
theorem dX10_modulo_137 : decode cX10_modulo 137 = .ok (.aload_n 0, 1) := by decide +kernel
theorem dX10_modulo_138 : decode cX10_modulo 138 = .ok (.getfield 63, 3) := by decide +kernel
theorem dX10_modulo_141 : decode cX10_modulo 141 = .ok (.iconst 4, 1) := by decide +kernel
theorem dX10_modulo_142 : decode cX10_modulo 142 = .ok (.iload_n 2, 1) := by decide +kernel
theorem dX10_modulo_143 : decode cX10_modulo 143 = .ok (.imul, 1) := by decide +kernel
theorem dX10_modulo_144 : decode cX10_modulo 144 = .ok (.iconst 1, 1) := by decide +kernel
theorem dX10_modulo_145 : decode cX10_modulo 145 = .ok (.iadd, 1) := by decide +kernel
theorem dX10_modulo_146 : decode cX10_modulo 146 = .ok (.laload, 1) := by decide +kernel
theorem dX10_modulo_147 : decode cX10_modulo 147 = .ok (.bipush 16, 2) := by decide +kernel
theorem dX10_modulo_149 : decode cX10_modulo 149 = .ok (.lshl, 1) := by decide +kernel
theorem dX10_modulo_150 : decode cX10_modulo 150 = .ok (.lor, 1) := by decide +kernel
theorem dX10_modulo_151 : decode cX10_modulo 151 = .ok (.aload_n 0, 1) := by decide +kernel
theorem dX10_modulo_152 : decode cX10_modulo 152 = .ok (.getfield 63, 3) := by decide +kernel
theorem dX10_modulo_155 : decode cX10_modulo 155 = .ok (.iconst 4, 1) := by decide +kernel
theorem dX10_modulo_156 : decode cX10_modulo 156 = .ok (.iload_n 2, 1) := by decide +kernel
theorem dX10_modulo_157 : decode cX10_modulo 157 = .ok (.imul, 1) := by decide +kernel
theorem dX10_modulo_158 : decode cX10_modulo 158 = .ok (.iconst 2, 1) := by decide +kernel
theorem dX10_modulo_159 : decode cX10_modulo 159 = .ok (.iadd, 1) := by decide +kernel
theorem dX10_modulo_160 : decode cX10_modulo 160 = .ok (.laload, 1) := by decide +kernel
theorem dX10_modulo_161 : decode cX10_modulo 161 = .ok (.bipush 32, 2) := by decide +kernel
theorem dX10_modulo_163 : decode cX10_modulo 163 = .ok (.lshl, 1) := by decide +kernel
theorem dX10_modulo_164 : decode cX10_modulo 164 = .ok (.lor, 1) := by decide +kernel
theorem dX10_modulo_165 : decode cX10_modulo 165 = .ok (.aload_n 0, 1) := by decide +kernel
theorem dX10_modulo_166 : decode cX10_modulo 166 = .ok (.getfield 63, 3) := by decide +kernel
theorem dX10_modulo_169 : decode cX10_modulo 169 = .ok (.iconst 4, 1) := by decide +kernel
theorem dX10_modulo_170 : decode cX10_modulo 170 = .ok (.iload_n 2, 1) := by decide +kernel
theorem dX10_modulo_171 : decode cX10_modulo 171 = .ok (.imul, 1) := by decide +kernel
theorem dX10_modulo_172 : decode cX10_modulo 172 = .ok (.iconst 3, 1) := by decide +kernel
theorem dX10_modulo_173 : decode cX10_modulo 173 = .ok (.iadd, 1) := by decide +kernel
theorem dX10_modulo_174 : decode cX10_modulo 174 = .ok (.laload, 1) := by decide +kernel
theorem dX10_modulo_175 : decode cX10_modulo 175 = .ok (.bipush 48, 2) := by decide +kernel
theorem dX10_modulo_177 : decode cX10_modulo 177 = .ok (.lshl, 1) := by decide +kernel
theorem dX10_modulo_178 : decode cX10_modulo 178 = .ok (.lor, 1) := by decide +kernel
theorem dX10_modulo_179 : decode cX10_modulo 179 = .ok (.lastore, 1) := by decide +kernel
theorem dX10_modulo_180 : decode cX10_modulo 180 = .ok (.iinc 2 1, 3) := by decide +kernel
theorem dX10_modulo_183 : decode cX10_modulo 183 = .ok (.goto (-66), 3) := by decide +kernel
theorem dX10_modulo_186 : decode cX10_modulo 186 = .ok (.return_, 1) := by decide +kernel
theorem dX10_lessOrder_0 : decode cX10_lessOrder 0 = .ok (.iconst 1, 1) := by decide +kernel
theorem dX10_lessOrder_1 : decode cX10_lessOrder 1 = .ok (.istore_n 1, 1) := by decide +kernel
theorem dX10_lessOrder_2 : decode cX10_lessOrder 2 = .ok (.aload_n 0, 1) := by decide +kernel
theorem dX10_lessOrder_3 : decode cX10_lessOrder 3 = .ok (.getfield 63, 3) := by decide +kernel
theorem dX10_lessOrder_6 : decode cX10_lessOrder 6 = .ok (.bipush 16, 2) := by decide +kernel
theorem dX10_lessOrder_8 : decode cX10_lessOrder 8 = .ok (.laload, 1) := by decide +kernel
theorem dX10_lessOrder_9 : decode cX10_lessOrder 9 = .ok (.lconst 0, 1) := by decide +kernel
theorem dX10_lessOrder_10 : decode cX10_lessOrder 10 = .ok (.lcmp, 1) := by decide +kernel
theorem dX10_lessOrder_11 : decode cX10_lessOrder 11 = .ok (.ifCond .eq 7, 3) := by decide +kernel
theorem dX10_lessOrder_14 : decode cX10_lessOrder 14 = .ok (.iconst 1, 1) := by decide +kernel
theorem dX10_lessOrder_15 : decode cX10_lessOrder 15 = .ok (.goto 4, 3) := by decide +kernel
theorem dX10_lessOrder_18 : decode cX10_lessOrder 18 = .ok (.iconst 0, 1) := by decide +kernel
theorem dX10_lessOrder_19 : decode cX10_lessOrder 19 = .ok (.istore_n 2, 1) := by decide +kernel
theorem dX10_lessOrder_20 : decode cX10_lessOrder 20 = .ok (.bipush 15, 2) := by decide +kernel
theorem dX10_lessOrder_22 : decode cX10_lessOrder 22 = .ok (.istore_n 3, 1) := by decide +kernel
theorem dX10_lessOrder_23 : decode cX10_lessOrder 23 = .ok (.iload_n 3, 1) := by decide +kernel
theorem dX10_lessOrder_24 : decode cX10_lessOrder 24 = .ok (.ifCond .lt 68, 3) := by decide +kernel
theorem dX10_lessOrder_27 : decode cX10_lessOrder 27 = .ok (.iload_n 2, 1) := by decide +kernel
theorem dX10_lessOrder_28 : decode cX10_lessOrder 28 = .ok (.ifCond .ne 64, 3) := by decide +kernel
theorem dX10_lessOrder_31 : decode cX10_lessOrder 31 = .ok (.aload_n 0, 1) := by decide +kernel
theorem dX10_lessOrder_32 : decode cX10_lessOrder 32 = .ok (.getfield 27, 3) := by decide +kernel
theorem dX10_lessOrder_35 : decode cX10_lessOrder 35 = .ok (.bipush 32, 2) := by decide +kernel
theorem dX10_lessOrder_37 : decode cX10_lessOrder 37 = .ok (.iload_n 3, 1) := by decide +kernel
theorem dX10_lessOrder_38 : decode cX10_lessOrder 38 = .ok (.iconst 4, 1) := by decide +kernel
theorem dX10_lessOrder_39 : decode cX10_lessOrder 39 = .ok (.idiv, 1) := by decide +kernel
theorem dX10_lessOrder_40 : decode cX10_lessOrder 40 = .ok (.iadd, 1) := by decide +kernel
theorem dX10_lessOrder_41 : decode cX10_lessOrder 41 = .ok (.laload, 1) := by decide +kernel
theorem dX10_lessOrder_42 : decode cX10_lessOrder 42 = .ok (.iload_n 3, 1) := by decide +kernel
theorem dX10_lessOrder_43 : decode cX10_lessOrder 43 = .ok (.iconst 4, 1) := by decide +kernel
theorem dX10_lessOrder_44 : decode cX10_lessOrder 44 = .ok (.irem, 1) := by decide +kernel
theorem dX10_lessOrder_45 : decode cX10_lessOrder 45 = .ok (.invokestatic 216, 3) := by decide +kernel
theorem dX10_lessOrder_48 : decode cX10_lessOrder 48 = .ok (.lstore 4, 2) := by decide +kernel
theorem dX10_lessOrder_50 : decode cX10_lessOrder 50 = .ok (.aload_n 0, 1) := by decide +kernel
theorem dX10_lessOrder_51 : decode cX10_lessOrder 51 = .ok (.getfield 63, 3) := by decide +kernel
theorem dX10_lessOrder_54 : decode cX10_lessOrder 54 = .ok (.iload_n 3, 1) := by decide +kernel
theorem dX10_lessOrder_55 : decode cX10_lessOrder 55 = .ok (.laload, 1) := by decide +kernel
theorem dX10_lessOrder_56 : decode cX10_lessOrder 56 = .ok (.lload 4, 2) := by decide +kernel
theorem dX10_lessOrder_58 : decode cX10_lessOrder 58 = .ok (.lcmp, 1) := by decide +kernel
theorem dX10_lessOrder_59 : decode cX10_lessOrder 59 = .ok (.ifCond .eq 7, 3) := by decide +kernel
theorem dX10_lessOrder_62 : decode cX10_lessOrder 62 = .ok (.iconst 1, 1) := by decide +kernel
theorem dX10_lessOrder_63 : decode cX10_lessOrder 63 = .ok (.goto 4, 3) := by decide +kernel
theorem dX10_lessOrder_66 : decode cX10_lessOrder 66 = .ok (.iconst 0, 1) := by decide +kernel
theorem dX10_lessOrder_67 : decode cX10_lessOrder 67 = .ok (.istore_n 2, 1) := by decide +kernel
theorem dX10_lessOrder_68 : decode cX10_lessOrder 68 = .ok (.aload_n 0, 1) := by decide +kernel
theorem dX10_lessOrder_69 : decode cX10_lessOrder 69 = .ok (.getfield 63, 3) := by decide +kernel
theorem dX10_lessOrder_72 : decode cX10_lessOrder 72 = .ok (.iload_n 3, 1) := by decide +kernel
theorem dX10_lessOrder_73 : decode cX10_lessOrder 73 = .ok (.laload, 1) := by decide +kernel
theorem dX10_lessOrder_74 : decode cX10_lessOrder 74 = .ok (.lload 4, 2) := by decide +kernel
theorem dX10_lessOrder_76 : decode cX10_lessOrder 76 = .ok (.lcmp, 1) := by decide +kernel
theorem dX10_lessOrder_77 : decode cX10_lessOrder 77 = .ok (.ifCond .lt 7, 3) := by decide +kernel
theorem dX10_lessOrder_80 : decode cX10_lessOrder 80 = .ok (.iconst 1, 1) := by decide +kernel
theorem dX10_lessOrder_81 : decode cX10_lessOrder 81 = .ok (.goto 4, 3) := by decide +kernel
theorem dX10_lessOrder_84 : decode cX10_lessOrder 84 = .ok (.iconst 0, 1) := by decide +kernel
theorem dX10_lessOrder_85 : decode cX10_lessOrder 85 = .ok (.istore_n 1, 1) := by decide +kernel
theorem dX10_lessOrder_86 : decode cX10_lessOrder 86 = .ok (.iinc 3 (-1), 3) := by decide +kernel
theorem dX10_lessOrder_89 : decode cX10_lessOrder 89 = .ok (.goto (-66), 3) := by decide +kernel
theorem dX10_lessOrder_92 : decode cX10_lessOrder 92 = .ok (.iload_n 1, 1) := by decide +kernel
theorem dX10_lessOrder_93 : decode cX10_lessOrder 93 = .ok (.ifCond .eq 87, 3) := by decide +kernel
theorem dX10_lessOrder_96 : decode cX10_lessOrder 96 = .ok (.lconst 0, 1) := by decide +kernel
theorem dX10_lessOrder_97 : decode cX10_lessOrder 97 = .ok (.lstore_n 3, 1) := by decide +kernel
theorem dX10_lessOrder_98 : decode cX10_lessOrder 98 = .ok (.iconst 0, 1) := by decide +kernel
theorem dX10_lessOrder_99 : decode cX10_lessOrder 99 = .ok (.istore 5, 2) := by decide +kernel
theorem dX10_lessOrder_101 : decode cX10_lessOrder 101 = .ok (.iload 5, 2) := by decide +kernel
theorem dX10_lessOrder_103 : decode cX10_lessOrder 103 = .ok (.bipush 17, 2) := by decide +kernel
theorem dX10_lessOrder_105 : decode cX10_lessOrder 105 = .ok (.if_icmp .ge 75, 3) := by decide +kernel
theorem dX10_lessOrder_108 : decode cX10_lessOrder 108 = .ok (.aload_n 0, 1) := by decide +kernel
theorem dX10_lessOrder_109 : decode cX10_lessOrder 109 = .ok (.getfield 63, 3) := by decide +kernel
theorem dX10_lessOrder_112 : decode cX10_lessOrder 112 = .ok (.iload 5, 2) := by decide +kernel
theorem dX10_lessOrder_114 : decode cX10_lessOrder 114 = .ok (.dup2, 1) := by decide +kernel
theorem dX10_lessOrder_115 : decode cX10_lessOrder 115 = .ok (.laload, 1) := by decide +kernel
theorem dX10_lessOrder_116 : decode cX10_lessOrder 116 = .ok (.lload_n 3, 1) := by decide +kernel
theorem dX10_lessOrder_117 : decode cX10_lessOrder 117 = .ok (.iload 5, 2) := by decide +kernel
theorem dX10_lessOrder_119 : decode cX10_lessOrder 119 = .ok (.bipush 16, 2) := by decide +kernel
theorem dX10_lessOrder_121 : decode cX10_lessOrder 121 = .ok (.if_icmp .ge 25, 3) := by decide +kernel
theorem dX10_lessOrder_124 : decode cX10_lessOrder 124 = .ok (.aload_n 0, 1) := by decide +kernel
theorem dX10_lessOrder_125 : decode cX10_lessOrder 125 = .ok (.getfield 27, 3) := by decide +kernel
theorem dX10_lessOrder_128 : decode cX10_lessOrder 128 = .ok (.bipush 32, 2) := by decide +kernel
theorem dX10_lessOrder_130 : decode cX10_lessOrder 130 = .ok (.iload 5, 2) := by decide +kernel
theorem dX10_lessOrder_132 : decode cX10_lessOrder 132 = .ok (.iconst 4, 1) := by decide +kernel
theorem dX10_lessOrder_133 : decode cX10_lessOrder 133 = .ok (.idiv, 1) := by decide +kernel
theorem dX10_lessOrder_134 : decode cX10_lessOrder 134 = .ok (.iadd, 1) := by decide +kernel
theorem dX10_lessOrder_135 : decode cX10_lessOrder 135 = .ok (.laload, 1) := by decide +kernel
theorem dX10_lessOrder_136 : decode cX10_lessOrder 136 = .ok (.iload 5, 2) := by decide +kernel
theorem dX10_lessOrder_138 : decode cX10_lessOrder 138 = .ok (.iconst 4, 1) := by decide +kernel
theorem dX10_lessOrder_139 : decode cX10_lessOrder 139 = .ok (.irem, 1) := by decide +kernel
theorem dX10_lessOrder_140 : decode cX10_lessOrder 140 = .ok (.invokestatic 216, 3) := by decide +kernel
theorem dX10_lessOrder_143 : decode cX10_lessOrder 143 = .ok (.goto 4, 3) := by decide +kernel
theorem dX10_lessOrder_146 : decode cX10_lessOrder 146 = .ok (.lconst 0, 1) := by decide +kernel
theorem dX10_lessOrder_147 : decode cX10_lessOrder 147 = .ok (.lsub, 1) := by decide +kernel
theorem dX10_lessOrder_148 : decode cX10_lessOrder 148 = .ok (.ladd, 1) := by decide +kernel
theorem dX10_lessOrder_149 : decode cX10_lessOrder 149 = .ok (.lastore, 1) := by decide +kernel
theorem dX10_lessOrder_150 : decode cX10_lessOrder 150 = .ok (.aload_n 0, 1) := by decide +kernel
theorem dX10_lessOrder_151 : decode cX10_lessOrder 151 = .ok (.getfield 63, 3) := by decide +kernel
theorem dX10_lessOrder_154 : decode cX10_lessOrder 154 = .ok (.iload 5, 2) := by decide +kernel
theorem dX10_lessOrder_156 : decode cX10_lessOrder 156 = .ok (.laload, 1) := by decide +kernel
theorem dX10_lessOrder_157 : decode cX10_lessOrder 157 = .ok (.bipush 16, 2) := by decide +kernel
theorem dX10_lessOrder_159 : decode cX10_lessOrder 159 = .ok (.lshr, 1) := by decide +kernel
theorem dX10_lessOrder_160 : decode cX10_lessOrder 160 = .ok (.lstore_n 3, 1) := by decide +kernel
theorem dX10_lessOrder_161 : decode cX10_lessOrder 161 = .ok (.aload_n 0, 1) := by decide +kernel
theorem dX10_lessOrder_162 : decode cX10_lessOrder 162 = .ok (.getfield 63, 3) := by decide +kernel
theorem dX10_lessOrder_165 : decode cX10_lessOrder 165 = .ok (.iload 5, 2) := by decide +kernel
theorem dX10_lessOrder_167 : decode cX10_lessOrder 167 = .ok (.dup2, 1) := by decide +kernel
theorem dX10_lessOrder_168 : decode cX10_lessOrder 168 = .ok (.laload, 1) := by decide +kernel
theorem dX10_lessOrder_169 : decode cX10_lessOrder 169 = .ok (.ldc2_w 141, 3) := by decide +kernel
theorem dX10_lessOrder_172 : decode cX10_lessOrder 172 = .ok (.land, 1) := by decide +kernel
theorem dX10_lessOrder_173 : decode cX10_lessOrder 173 = .ok (.lastore, 1) := by decide +kernel
theorem dX10_lessOrder_174 : decode cX10_lessOrder 174 = .ok (.iinc 5 1, 3) := by decide +kernel
theorem dX10_lessOrder_177 : decode cX10_lessOrder 177 = .ok (.goto (-76), 3) := by decide +kernel
theorem dX10_lessOrder_180 : decode cX10_lessOrder 180 = .ok (.return_, 1) := by decide +kernel
theorem dX10_scalarOf_0 : decode cX10_scalarOf 0 = .ok (.iconst 0, 1) := by decide +kernel
theorem dX10_scalarOf_1 : decode cX10_scalarOf 1 = .ok (.istore 5, 2) := by decide +kernel
theorem dX10_scalarOf_3 : decode cX10_scalarOf 3 = .ok (.iload 5, 2) := by decide +kernel
theorem dX10_scalarOf_5 : decode cX10_scalarOf 5 = .ok (.bipush 40, 2) := by decide +kernel
theorem dX10_scalarOf_7 : decode cX10_scalarOf 7 = .ok (.if_icmp .ge 17, 3) := by decide +kernel
theorem dX10_scalarOf_10 : decode cX10_scalarOf 10 = .ok (.aload_n 0, 1) := by decide +kernel
theorem dX10_scalarOf_11 : decode cX10_scalarOf 11 = .ok (.getfield 60, 3) := by decide +kernel
theorem dX10_scalarOf_14 : decode cX10_scalarOf 14 = .ok (.iload 5, 2) := by decide +kernel
theorem dX10_scalarOf_16 : decode cX10_scalarOf 16 = .ok (.lconst 0, 1) := by decide +kernel
theorem dX10_scalarOf_17 : decode cX10_scalarOf 17 = .ok (.lastore, 1) := by decide +kernel
theorem dX10_scalarOf_18 : decode cX10_scalarOf 18 = .ok (.iinc 5 1, 3) := by decide +kernel
theorem dX10_scalarOf_21 : decode cX10_scalarOf 21 = .ok (.goto (-18), 3) := by decide +kernel
theorem dX10_scalarOf_24 : decode cX10_scalarOf 24 = .ok (.iconst 0, 1) := by decide +kernel
theorem dX10_scalarOf_25 : decode cX10_scalarOf 25 = .ok (.istore 5, 2) := by decide +kernel
theorem dX10_scalarOf_27 : decode cX10_scalarOf 27 = .ok (.iload 5, 2) := by decide +kernel
theorem dX10_scalarOf_29 : decode cX10_scalarOf 29 = .ok (.bipush 16, 2) := by decide +kernel
theorem dX10_scalarOf_31 : decode cX10_scalarOf 31 = .ok (.if_icmp .ge 75, 3) := by decide +kernel
theorem dX10_scalarOf_34 : decode cX10_scalarOf 34 = .ok (.iconst 0, 1) := by decide +kernel
theorem dX10_scalarOf_35 : decode cX10_scalarOf 35 = .ok (.istore 6, 2) := by decide +kernel
theorem dX10_scalarOf_37 : decode cX10_scalarOf 37 = .ok (.iload 6, 2) := by decide +kernel
theorem dX10_scalarOf_39 : decode cX10_scalarOf 39 = .ok (.bipush 16, 2) := by decide +kernel
theorem dX10_scalarOf_41 : decode cX10_scalarOf 41 = .ok (.if_icmp .ge 59, 3) := by decide +kernel
theorem dX10_scalarOf_44 : decode cX10_scalarOf 44 = .ok (.aload_n 0, 1) := by decide +kernel
theorem dX10_scalarOf_45 : decode cX10_scalarOf 45 = .ok (.getfield 60, 3) := by decide +kernel
theorem dX10_scalarOf_48 : decode cX10_scalarOf 48 = .ok (.iload 5, 2) := by decide +kernel
theorem dX10_scalarOf_50 : decode cX10_scalarOf 50 = .ok (.iload 6, 2) := by decide +kernel
theorem dX10_scalarOf_52 : decode cX10_scalarOf 52 = .ok (.iadd, 1) := by decide +kernel
theorem dX10_scalarOf_53 : decode cX10_scalarOf 53 = .ok (.dup2, 1) := by decide +kernel
theorem dX10_scalarOf_54 : decode cX10_scalarOf 54 = .ok (.laload, 1) := by decide +kernel
theorem dX10_scalarOf_55 : decode cX10_scalarOf 55 = .ok (.aload_n 0, 1) := by decide +kernel
theorem dX10_scalarOf_56 : decode cX10_scalarOf 56 = .ok (.getfield 27, 3) := by decide +kernel
theorem dX10_scalarOf_59 : decode cX10_scalarOf 59 = .ok (.iload_n 2, 1) := by decide +kernel
theorem dX10_scalarOf_60 : decode cX10_scalarOf 60 = .ok (.iload 5, 2) := by decide +kernel
theorem dX10_scalarOf_62 : decode cX10_scalarOf 62 = .ok (.iconst 4, 1) := by decide +kernel
theorem dX10_scalarOf_63 : decode cX10_scalarOf 63 = .ok (.idiv, 1) := by decide +kernel
theorem dX10_scalarOf_64 : decode cX10_scalarOf 64 = .ok (.iadd, 1) := by decide +kernel
theorem dX10_scalarOf_65 : decode cX10_scalarOf 65 = .ok (.laload, 1) := by decide +kernel
theorem dX10_scalarOf_66 : decode cX10_scalarOf 66 = .ok (.iload 5, 2) := by decide +kernel
theorem dX10_scalarOf_68 : decode cX10_scalarOf 68 = .ok (.iconst 4, 1) := by decide +kernel
theorem dX10_scalarOf_69 : decode cX10_scalarOf 69 = .ok (.irem, 1) := by decide +kernel
theorem dX10_scalarOf_70 : decode cX10_scalarOf 70 = .ok (.invokestatic 216, 3) := by decide +kernel
theorem dX10_scalarOf_73 : decode cX10_scalarOf 73 = .ok (.aload_n 0, 1) := by decide +kernel
theorem dX10_scalarOf_74 : decode cX10_scalarOf 74 = .ok (.getfield 27, 3) := by decide +kernel
theorem dX10_scalarOf_77 : decode cX10_scalarOf 77 = .ok (.iload_n 3, 1) := by decide +kernel
theorem dX10_scalarOf_78 : decode cX10_scalarOf 78 = .ok (.iload 6, 2) := by decide +kernel
theorem dX10_scalarOf_80 : decode cX10_scalarOf 80 = .ok (.iconst 4, 1) := by decide +kernel
theorem dX10_scalarOf_81 : decode cX10_scalarOf 81 = .ok (.idiv, 1) := by decide +kernel
theorem dX10_scalarOf_82 : decode cX10_scalarOf 82 = .ok (.iadd, 1) := by decide +kernel
theorem dX10_scalarOf_83 : decode cX10_scalarOf 83 = .ok (.laload, 1) := by decide +kernel
theorem dX10_scalarOf_84 : decode cX10_scalarOf 84 = .ok (.iload 6, 2) := by decide +kernel
theorem dX10_scalarOf_86 : decode cX10_scalarOf 86 = .ok (.iconst 4, 1) := by decide +kernel
theorem dX10_scalarOf_87 : decode cX10_scalarOf 87 = .ok (.irem, 1) := by decide +kernel
theorem dX10_scalarOf_88 : decode cX10_scalarOf 88 = .ok (.invokestatic 216, 3) := by decide +kernel
theorem dX10_scalarOf_91 : decode cX10_scalarOf 91 = .ok (.lmul, 1) := by decide +kernel
theorem dX10_scalarOf_92 : decode cX10_scalarOf 92 = .ok (.ladd, 1) := by decide +kernel
theorem dX10_scalarOf_93 : decode cX10_scalarOf 93 = .ok (.lastore, 1) := by decide +kernel
theorem dX10_scalarOf_94 : decode cX10_scalarOf 94 = .ok (.iinc 6 1, 3) := by decide +kernel
theorem dX10_scalarOf_97 : decode cX10_scalarOf 97 = .ok (.goto (-60), 3) := by decide +kernel
theorem dX10_scalarOf_100 : decode cX10_scalarOf 100 = .ok (.iinc 5 1, 3) := by decide +kernel
theorem dX10_scalarOf_103 : decode cX10_scalarOf 103 = .ok (.goto (-76), 3) := by decide +kernel
theorem dX10_scalarOf_106 : decode cX10_scalarOf 106 = .ok (.iconst 0, 1) := by decide +kernel
theorem dX10_scalarOf_107 : decode cX10_scalarOf 107 = .ok (.istore 5, 2) := by decide +kernel
theorem dX10_scalarOf_109 : decode cX10_scalarOf 109 = .ok (.iload 5, 2) := by decide +kernel
theorem dX10_scalarOf_111 : decode cX10_scalarOf 111 = .ok (.bipush 16, 2) := by decide +kernel
theorem dX10_scalarOf_113 : decode cX10_scalarOf 113 = .ok (.if_icmp .ge 38, 3) := by decide +kernel
theorem dX10_scalarOf_116 : decode cX10_scalarOf 116 = .ok (.aload_n 0, 1) := by decide +kernel
theorem dX10_scalarOf_117 : decode cX10_scalarOf 117 = .ok (.getfield 60, 3) := by decide +kernel
theorem dX10_scalarOf_120 : decode cX10_scalarOf 120 = .ok (.iload 5, 2) := by decide +kernel
theorem dX10_scalarOf_122 : decode cX10_scalarOf 122 = .ok (.dup2, 1) := by decide +kernel
theorem dX10_scalarOf_123 : decode cX10_scalarOf 123 = .ok (.laload, 1) := by decide +kernel
theorem dX10_scalarOf_124 : decode cX10_scalarOf 124 = .ok (.aload_n 0, 1) := by decide +kernel
theorem dX10_scalarOf_125 : decode cX10_scalarOf 125 = .ok (.getfield 27, 3) := by decide +kernel
theorem dX10_scalarOf_128 : decode cX10_scalarOf 128 = .ok (.iload 4, 2) := by decide +kernel
theorem dX10_scalarOf_130 : decode cX10_scalarOf 130 = .ok (.iload 5, 2) := by decide +kernel
theorem dX10_scalarOf_132 : decode cX10_scalarOf 132 = .ok (.iconst 4, 1) := by decide +kernel
theorem dX10_scalarOf_133 : decode cX10_scalarOf 133 = .ok (.idiv, 1) := by decide +kernel
theorem dX10_scalarOf_134 : decode cX10_scalarOf 134 = .ok (.iadd, 1) := by decide +kernel
theorem dX10_scalarOf_135 : decode cX10_scalarOf 135 = .ok (.laload, 1) := by decide +kernel
theorem dX10_scalarOf_136 : decode cX10_scalarOf 136 = .ok (.iload 5, 2) := by decide +kernel
theorem dX10_scalarOf_138 : decode cX10_scalarOf 138 = .ok (.iconst 4, 1) := by decide +kernel
theorem dX10_scalarOf_139 : decode cX10_scalarOf 139 = .ok (.irem, 1) := by decide +kernel
theorem dX10_scalarOf_140 : decode cX10_scalarOf 140 = .ok (.invokestatic 216, 3) := by decide +kernel
theorem dX10_scalarOf_143 : decode cX10_scalarOf 143 = .ok (.ladd, 1) := by decide +kernel
theorem dX10_scalarOf_144 : decode cX10_scalarOf 144 = .ok (.lastore, 1) := by decide +kernel
theorem dX10_scalarOf_145 : decode cX10_scalarOf 145 = .ok (.iinc 5 1, 3) := by decide +kernel
theorem dX10_scalarOf_148 : decode cX10_scalarOf 148 = .ok (.goto (-39), 3) := by decide +kernel
theorem dX10_scalarOf_151 : decode cX10_scalarOf 151 = .ok (.iconst 0, 1) := by decide +kernel
theorem dX10_scalarOf_152 : decode cX10_scalarOf 152 = .ok (.istore 5, 2) := by decide +kernel
theorem dX10_scalarOf_154 : decode cX10_scalarOf 154 = .ok (.iload 5, 2) := by decide +kernel
theorem dX10_scalarOf_156 : decode cX10_scalarOf 156 = .ok (.bipush 39, 2) := by decide +kernel
theorem dX10_scalarOf_158 : decode cX10_scalarOf 158 = .ok (.if_icmp .ge 44, 3) := by decide +kernel
theorem dX10_scalarOf_161 : decode cX10_scalarOf 161 = .ok (.aload_n 0, 1) := by decide +kernel
theorem dX10_scalarOf_162 : decode cX10_scalarOf 162 = .ok (.getfield 60, 3) := by decide +kernel
theorem dX10_scalarOf_165 : decode cX10_scalarOf 165 = .ok (.iload 5, 2) := by decide +kernel
theorem dX10_scalarOf_167 : decode cX10_scalarOf 167 = .ok (.iconst 1, 1) := by decide +kernel
theorem dX10_scalarOf_168 : decode cX10_scalarOf 168 = .ok (.iadd, 1) := by decide +kernel
theorem dX10_scalarOf_169 : decode cX10_scalarOf 169 = .ok (.dup2, 1) := by decide +kernel
theorem dX10_scalarOf_170 : decode cX10_scalarOf 170 = .ok (.laload, 1) := by decide +kernel
theorem dX10_scalarOf_171 : decode cX10_scalarOf 171 = .ok (.aload_n 0, 1) := by decide +kernel
theorem dX10_scalarOf_172 : decode cX10_scalarOf 172 = .ok (.getfield 60, 3) := by decide +kernel
theorem dX10_scalarOf_175 : decode cX10_scalarOf 175 = .ok (.iload 5, 2) := by decide +kernel
theorem dX10_scalarOf_177 : decode cX10_scalarOf 177 = .ok (.laload, 1) := by decide +kernel
theorem dX10_scalarOf_178 : decode cX10_scalarOf 178 = .ok (.bipush 16, 2) := by decide +kernel
theorem dX10_scalarOf_180 : decode cX10_scalarOf 180 = .ok (.lshr, 1) := by decide +kernel
theorem dX10_scalarOf_181 : decode cX10_scalarOf 181 = .ok (.ladd, 1) := by decide +kernel
theorem dX10_scalarOf_182 : decode cX10_scalarOf 182 = .ok (.lastore, 1) := by decide +kernel
theorem dX10_scalarOf_183 : decode cX10_scalarOf 183 = .ok (.aload_n 0, 1) := by decide +kernel
theorem dX10_scalarOf_184 : decode cX10_scalarOf 184 = .ok (.getfield 60, 3) := by decide +kernel
theorem dX10_scalarOf_187 : decode cX10_scalarOf 187 = .ok (.iload 5, 2) := by decide +kernel
theorem dX10_scalarOf_189 : decode cX10_scalarOf 189 = .ok (.dup2, 1) := by decide +kernel
theorem dX10_scalarOf_190 : decode cX10_scalarOf 190 = .ok (.laload, 1) := by decide +kernel
theorem dX10_scalarOf_191 : decode cX10_scalarOf 191 = .ok (.ldc2_w 141, 3) := by decide +kernel
theorem dX10_scalarOf_194 : decode cX10_scalarOf 194 = .ok (.land, 1) := by decide +kernel
theorem dX10_scalarOf_195 : decode cX10_scalarOf 195 = .ok (.lastore, 1) := by decide +kernel
theorem dX10_scalarOf_196 : decode cX10_scalarOf 196 = .ok (.iinc 5 1, 3) := by decide +kernel
theorem dX10_scalarOf_199 : decode cX10_scalarOf 199 = .ok (.goto (-45), 3) := by decide +kernel
theorem dX10_scalarOf_202 : decode cX10_scalarOf 202 = .ok (.aload_n 0, 1) := by decide +kernel
theorem dX10_scalarOf_203 : decode cX10_scalarOf 203 = .ok (.iload_n 1, 1) := by decide +kernel
theorem dX10_scalarOf_204 : decode cX10_scalarOf 204 = .ok (.invokevirtual 219, 3) := by decide +kernel
theorem dX10_scalarOf_207 : decode cX10_scalarOf 207 = .ok (.return_, 1) := by decide +kernel
theorem dX10_digestScalar_0 : decode cX10_digestScalar 0 = .ok (.iconst 0, 1) := by decide +kernel
theorem dX10_digestScalar_1 : decode cX10_digestScalar 1 = .ok (.istore_n 2, 1) := by decide +kernel
theorem dX10_digestScalar_2 : decode cX10_digestScalar 2 = .ok (.iload_n 2, 1) := by decide +kernel
theorem dX10_digestScalar_3 : decode cX10_digestScalar 3 = .ok (.bipush 40, 2) := by decide +kernel
theorem dX10_digestScalar_5 : decode cX10_digestScalar 5 = .ok (.if_icmp .ge 48, 3) := by decide +kernel
theorem dX10_digestScalar_8 : decode cX10_digestScalar 8 = .ok (.aload_n 0, 1) := by decide +kernel
theorem dX10_digestScalar_9 : decode cX10_digestScalar 9 = .ok (.getfield 60, 3) := by decide +kernel
theorem dX10_digestScalar_12 : decode cX10_digestScalar 12 = .ok (.iload_n 2, 1) := by decide +kernel
theorem dX10_digestScalar_13 : decode cX10_digestScalar 13 = .ok (.iload_n 2, 1) := by decide +kernel
theorem dX10_digestScalar_14 : decode cX10_digestScalar 14 = .ok (.bipush 32, 2) := by decide +kernel
theorem dX10_digestScalar_16 : decode cX10_digestScalar 16 = .ok (.if_icmp .ge 29, 3) := by decide +kernel
theorem dX10_digestScalar_19 : decode cX10_digestScalar 19 = .ok (.aload_n 0, 1) := by decide +kernel
theorem dX10_digestScalar_20 : decode cX10_digestScalar 20 = .ok (.getfield 57, 3) := by decide +kernel
theorem dX10_digestScalar_23 : decode cX10_digestScalar 23 = .ok (.iconst 2, 1) := by decide +kernel
theorem dX10_digestScalar_24 : decode cX10_digestScalar 24 = .ok (.iload_n 2, 1) := by decide +kernel
theorem dX10_digestScalar_25 : decode cX10_digestScalar 25 = .ok (.imul, 1) := by decide +kernel
theorem dX10_digestScalar_26 : decode cX10_digestScalar 26 = .ok (.iaload, 1) := by decide +kernel
theorem dX10_digestScalar_27 : decode cX10_digestScalar 27 = .ok (.aload_n 0, 1) := by decide +kernel
theorem dX10_digestScalar_28 : decode cX10_digestScalar 28 = .ok (.getfield 57, 3) := by decide +kernel
theorem dX10_digestScalar_31 : decode cX10_digestScalar 31 = .ok (.iconst 2, 1) := by decide +kernel
theorem dX10_digestScalar_32 : decode cX10_digestScalar 32 = .ok (.iload_n 2, 1) := by decide +kernel
theorem dX10_digestScalar_33 : decode cX10_digestScalar 33 = .ok (.imul, 1) := by decide +kernel
theorem dX10_digestScalar_34 : decode cX10_digestScalar 34 = .ok (.iconst 1, 1) := by decide +kernel
theorem dX10_digestScalar_35 : decode cX10_digestScalar 35 = .ok (.iadd, 1) := by decide +kernel
theorem dX10_digestScalar_36 : decode cX10_digestScalar 36 = .ok (.iaload, 1) := by decide +kernel
theorem dX10_digestScalar_37 : decode cX10_digestScalar 37 = .ok (.bipush 8, 2) := by decide +kernel
theorem dX10_digestScalar_39 : decode cX10_digestScalar 39 = .ok (.ishl, 1) := by decide +kernel
theorem dX10_digestScalar_40 : decode cX10_digestScalar 40 = .ok (.ior, 1) := by decide +kernel
theorem dX10_digestScalar_41 : decode cX10_digestScalar 41 = .ok (.i2l, 1) := by decide +kernel
theorem dX10_digestScalar_42 : decode cX10_digestScalar 42 = .ok (.goto 4, 3) := by decide +kernel
theorem dX10_digestScalar_45 : decode cX10_digestScalar 45 = .ok (.lconst 0, 1) := by decide +kernel
theorem dX10_digestScalar_46 : decode cX10_digestScalar 46 = .ok (.lastore, 1) := by decide +kernel
theorem dX10_digestScalar_47 : decode cX10_digestScalar 47 = .ok (.iinc 2 1, 3) := by decide +kernel
theorem dX10_digestScalar_50 : decode cX10_digestScalar 50 = .ok (.goto (-48), 3) := by decide +kernel
theorem dX10_digestScalar_53 : decode cX10_digestScalar 53 = .ok (.aload_n 0, 1) := by decide +kernel
theorem dX10_digestScalar_54 : decode cX10_digestScalar 54 = .ok (.iload_n 1, 1) := by decide +kernel
theorem dX10_digestScalar_55 : decode cX10_digestScalar 55 = .ok (.invokevirtual 219, 3) := by decide +kernel
theorem dX10_digestScalar_58 : decode cX10_digestScalar 58 = .ok (.return_, 1) := by decide +kernel
theorem dX10_set_0 : decode cX10_set 0 = .ok (.iload_n 1, 1) := by decide +kernel
theorem dX10_set_1 : decode cX10_set 1 = .ok (.invokestatic 222, 3) := by decide +kernel
theorem dX10_set_4 : decode cX10_set 4 = .ok (.ifCond .ne 6, 3) := by decide +kernel
theorem dX10_set_7 : decode cX10_set 7 = .ok (.bipush (-101), 2) := by decide +kernel
theorem dX10_set_9 : decode cX10_set 9 = .ok (.ireturn, 1) := by decide +kernel
theorem dX10_set_10 : decode cX10_set 10 = .ok (.iload_n 2, 1) := by decide +kernel
theorem dX10_set_11 : decode cX10_set 11 = .ok (.iconst 0, 1) := by decide +kernel
theorem dX10_set_12 : decode cX10_set 12 = .ok (.iconst 3, 1) := by decide +kernel
theorem dX10_set_13 : decode cX10_set 13 = .ok (.invokestatic 131, 3) := by decide +kernel
theorem dX10_set_16 : decode cX10_set 16 = .ok (.ifCond .ne 6, 3) := by decide +kernel
theorem dX10_set_19 : decode cX10_set 19 = .ok (.bipush (-102), 2) := by decide +kernel
theorem dX10_set_21 : decode cX10_set 21 = .ok (.ireturn, 1) := by decide +kernel
theorem dX10_set_22 : decode cX10_set 22 = .ok (.aload_n 0, 1) := by decide +kernel
theorem dX10_set_23 : decode cX10_set 23 = .ok (.getfield 7, 3) := by decide +kernel
theorem dX10_set_26 : decode cX10_set 26 = .ok (.iconst 4, 1) := by decide +kernel
theorem dX10_set_27 : decode cX10_set 27 = .ok (.iload_n 1, 1) := by decide +kernel
theorem dX10_set_28 : decode cX10_set 28 = .ok (.imul, 1) := by decide +kernel
theorem dX10_set_29 : decode cX10_set 29 = .ok (.iload_n 2, 1) := by decide +kernel
theorem dX10_set_30 : decode cX10_set 30 = .ok (.iadd, 1) := by decide +kernel
theorem dX10_set_31 : decode cX10_set 31 = .ok (.lload_n 3, 1) := by decide +kernel
theorem dX10_set_32 : decode cX10_set 32 = .ok (.lastore, 1) := by decide +kernel
theorem dX10_set_33 : decode cX10_set 33 = .ok (.iconst 1, 1) := by decide +kernel
theorem dX10_set_34 : decode cX10_set 34 = .ok (.ireturn, 1) := by decide +kernel
theorem dX10_word_0 : decode cX10_word 0 = .ok (.iload_n 1, 1) := by decide +kernel
theorem dX10_word_1 : decode cX10_word 1 = .ok (.invokestatic 222, 3) := by decide +kernel
theorem dX10_word_4 : decode cX10_word 4 = .ok (.ifCond .eq 25, 3) := by decide +kernel
theorem dX10_word_7 : decode cX10_word 7 = .ok (.iload_n 2, 1) := by decide +kernel
theorem dX10_word_8 : decode cX10_word 8 = .ok (.iconst 0, 1) := by decide +kernel
theorem dX10_word_9 : decode cX10_word 9 = .ok (.iconst 3, 1) := by decide +kernel
theorem dX10_word_10 : decode cX10_word 10 = .ok (.invokestatic 131, 3) := by decide +kernel
theorem dX10_word_13 : decode cX10_word 13 = .ok (.ifCond .eq 16, 3) := by decide +kernel
theorem dX10_word_16 : decode cX10_word 16 = .ok (.aload_n 0, 1) := by decide +kernel
theorem dX10_word_17 : decode cX10_word 17 = .ok (.getfield 7, 3) := by decide +kernel
theorem dX10_word_20 : decode cX10_word 20 = .ok (.iconst 4, 1) := by decide +kernel
theorem dX10_word_21 : decode cX10_word 21 = .ok (.iload_n 1, 1) := by decide +kernel
theorem dX10_word_22 : decode cX10_word 22 = .ok (.imul, 1) := by decide +kernel
theorem dX10_word_23 : decode cX10_word 23 = .ok (.iload_n 2, 1) := by decide +kernel
theorem dX10_word_24 : decode cX10_word 24 = .ok (.iadd, 1) := by decide +kernel
theorem dX10_word_25 : decode cX10_word 25 = .ok (.laload, 1) := by decide +kernel
theorem dX10_word_26 : decode cX10_word 26 = .ok (.goto 4, 3) := by decide +kernel
theorem dX10_word_29 : decode cX10_word 29 = .ok (.lconst 0, 1) := by decide +kernel
theorem dX10_word_30 : decode cX10_word 30 = .ok (.lreturn, 1) := by decide +kernel
theorem dX10_copy_0 : decode cX10_copy 0 = .ok (.iload_n 1, 1) := by decide +kernel
theorem dX10_copy_1 : decode cX10_copy 1 = .ok (.invokestatic 222, 3) := by decide +kernel
theorem dX10_copy_4 : decode cX10_copy 4 = .ok (.ifCond .eq 10, 3) := by decide +kernel
theorem dX10_copy_7 : decode cX10_copy 7 = .ok (.iload_n 2, 1) := by decide +kernel
theorem dX10_copy_8 : decode cX10_copy 8 = .ok (.invokestatic 222, 3) := by decide +kernel
theorem dX10_copy_11 : decode cX10_copy 11 = .ok (.ifCond .ne 6, 3) := by decide +kernel
theorem dX10_copy_14 : decode cX10_copy 14 = .ok (.bipush (-101), 2) := by decide +kernel
theorem dX10_copy_16 : decode cX10_copy 16 = .ok (.ireturn, 1) := by decide +kernel
theorem dX10_copy_17 : decode cX10_copy 17 = .ok (.aload_n 0, 1) := by decide +kernel
theorem dX10_copy_18 : decode cX10_copy 18 = .ok (.iconst 4, 1) := by decide +kernel
theorem dX10_copy_19 : decode cX10_copy 19 = .ok (.iload_n 1, 1) := by decide +kernel
theorem dX10_copy_20 : decode cX10_copy 20 = .ok (.invokevirtual 225, 3) := by decide +kernel
theorem dX10_copy_23 : decode cX10_copy 23 = .ok (.aload_n 0, 1) := by decide +kernel
theorem dX10_copy_24 : decode cX10_copy 24 = .ok (.iload_n 2, 1) := by decide +kernel
theorem dX10_copy_25 : decode cX10_copy 25 = .ok (.iconst 4, 1) := by decide +kernel
theorem dX10_copy_26 : decode cX10_copy 26 = .ok (.invokevirtual 228, 3) := by decide +kernel
theorem dX10_copy_29 : decode cX10_copy 29 = .ok (.iconst 1, 1) := by decide +kernel
theorem dX10_copy_30 : decode cX10_copy 30 = .ok (.ireturn, 1) := by decide +kernel
theorem dX10_type_0 : decode cX10_type 0 = .ok (.iload_n 3, 1) := by decide +kernel
theorem dX10_type_1 : decode cX10_type 1 = .ok (.iconst 1, 1) := by decide +kernel
theorem dX10_type_2 : decode cX10_type 2 = .ok (.bipush 8, 2) := by decide +kernel
theorem dX10_type_4 : decode cX10_type 4 = .ok (.invokestatic 131, 3) := by decide +kernel
theorem dX10_type_7 : decode cX10_type 7 = .ok (.ifCond .ne 6, 3) := by decide +kernel
theorem dX10_type_10 : decode cX10_type 10 = .ok (.bipush (-102), 2) := by decide +kernel
theorem dX10_type_12 : decode cX10_type 12 = .ok (.ireturn, 1) := by decide +kernel
theorem dX10_type_13 : decode cX10_type 13 = .ok (.aload_n 0, 1) := by decide +kernel
theorem dX10_type_14 : decode cX10_type 14 = .ok (.getfield 203, 3) := by decide +kernel
theorem dX10_type_17 : decode cX10_type 17 = .ok (.iload_n 3, 1) := by decide +kernel
theorem dX10_type_18 : decode cX10_type 18 = .ok (.iadd, 1) := by decide +kernel
theorem dX10_type_19 : decode cX10_type 19 = .ok (.sipush 400, 3) := by decide +kernel
theorem dX10_type_22 : decode cX10_type 22 = .ok (.if_icmp .le 6, 3) := by decide +kernel
theorem dX10_type_25 : decode cX10_type 25 = .ok (.bipush (-104), 2) := by decide +kernel
theorem dX10_type_27 : decode cX10_type 27 = .ok (.ireturn, 1) := by decide +kernel
theorem dX10_type_28 : decode cX10_type 28 = .ok (.iconst 0, 1) := by decide +kernel
theorem dX10_type_29 : decode cX10_type 29 = .ok (.istore 4, 2) := by decide +kernel
theorem dX10_type_31 : decode cX10_type 31 = .ok (.iload 4, 2) := by decide +kernel
theorem dX10_type_33 : decode cX10_type 33 = .ok (.iload_n 3, 1) := by decide +kernel
theorem dX10_type_34 : decode cX10_type 34 = .ok (.if_icmp .ge 40, 3) := by decide +kernel
theorem dX10_type_37 : decode cX10_type 37 = .ok (.aload_n 0, 1) := by decide +kernel
theorem dX10_type_38 : decode cX10_type 38 = .ok (.getfield 13, 3) := by decide +kernel
theorem dX10_type_41 : decode cX10_type 41 = .ok (.aload_n 0, 1) := by decide +kernel
theorem dX10_type_42 : decode cX10_type 42 = .ok (.getfield 203, 3) := by decide +kernel
theorem dX10_type_45 : decode cX10_type 45 = .ok (.lload_n 1, 1) := by decide +kernel
theorem dX10_type_46 : decode cX10_type 46 = .ok (.bipush 8, 2) := by decide +kernel
theorem dX10_type_48 : decode cX10_type 48 = .ok (.iload 4, 2) := by decide +kernel
theorem dX10_type_50 : decode cX10_type 50 = .ok (.imul, 1) := by decide +kernel
theorem dX10_type_51 : decode cX10_type 51 = .ok (.lushr, 1) := by decide +kernel
theorem dX10_type_52 : decode cX10_type 52 = .ok (.l2i, 1) := by decide +kernel
theorem dX10_type_53 : decode cX10_type 53 = .ok (.sipush 255, 3) := by decide +kernel
theorem dX10_type_56 : decode cX10_type 56 = .ok (.iand, 1) := by decide +kernel
theorem dX10_type_57 : decode cX10_type 57 = .ok (.iastore, 1) := by decide +kernel
theorem dX10_type_58 : decode cX10_type 58 = .ok (.aload_n 0, 1) := by decide +kernel
theorem dX10_type_59 : decode cX10_type 59 = .ok (.dup, 1) := by decide +kernel
theorem dX10_type_60 : decode cX10_type 60 = .ok (.getfield 203, 3) := by decide +kernel
theorem dX10_type_63 : decode cX10_type 63 = .ok (.iconst 1, 1) := by decide +kernel
theorem dX10_type_64 : decode cX10_type 64 = .ok (.iadd, 1) := by decide +kernel
theorem dX10_type_65 : decode cX10_type 65 = .ok (.putfield 203, 3) := by decide +kernel
theorem dX10_type_68 : decode cX10_type 68 = .ok (.iinc 4 1, 3) := by decide +kernel
theorem dX10_type_71 : decode cX10_type 71 = .ok (.goto (-40), 3) := by decide +kernel
theorem dX10_type_74 : decode cX10_type 74 = .ok (.aload_n 0, 1) := by decide +kernel
theorem dX10_type_75 : decode cX10_type 75 = .ok (.getfield 203, 3) := by decide +kernel
theorem dX10_type_78 : decode cX10_type 78 = .ok (.ireturn, 1) := by decide +kernel
theorem dX10_clear_0 : decode cX10_clear 0 = .ok (.aload_n 0, 1) := by decide +kernel
theorem dX10_clear_1 : decode cX10_clear 1 = .ok (.getfield 203, 3) := by decide +kernel
theorem dX10_clear_4 : decode cX10_clear 4 = .ok (.istore_n 1, 1) := by decide +kernel
theorem dX10_clear_5 : decode cX10_clear 5 = .ok (.aload_n 0, 1) := by decide +kernel
theorem dX10_clear_6 : decode cX10_clear 6 = .ok (.iconst 0, 1) := by decide +kernel
theorem dX10_clear_7 : decode cX10_clear 7 = .ok (.putfield 203, 3) := by decide +kernel
theorem dX10_clear_10 : decode cX10_clear 10 = .ok (.iload_n 1, 1) := by decide +kernel
theorem dX10_clear_11 : decode cX10_clear 11 = .ok (.ireturn, 1) := by decide +kernel
theorem dX10_at_0 : decode cX10_at 0 = .ok (.iload_n 1, 1) := by decide +kernel
theorem dX10_at_1 : decode cX10_at 1 = .ok (.iconst 0, 1) := by decide +kernel
theorem dX10_at_2 : decode cX10_at 2 = .ok (.aload_n 0, 1) := by decide +kernel
theorem dX10_at_3 : decode cX10_at 3 = .ok (.getfield 203, 3) := by decide +kernel
theorem dX10_at_6 : decode cX10_at 6 = .ok (.iconst 1, 1) := by decide +kernel
theorem dX10_at_7 : decode cX10_at 7 = .ok (.isub, 1) := by decide +kernel
theorem dX10_at_8 : decode cX10_at 8 = .ok (.invokestatic 131, 3) := by decide +kernel
theorem dX10_at_11 : decode cX10_at 11 = .ok (.ifCond .eq 12, 3) := by decide +kernel
theorem dX10_at_14 : decode cX10_at 14 = .ok (.aload_n 0, 1) := by decide +kernel
theorem dX10_at_15 : decode cX10_at 15 = .ok (.getfield 13, 3) := by decide +kernel
theorem dX10_at_18 : decode cX10_at 18 = .ok (.iload_n 1, 1) := by decide +kernel
theorem dX10_at_19 : decode cX10_at 19 = .ok (.iaload, 1) := by decide +kernel
theorem dX10_at_20 : decode cX10_at 20 = .ok (.goto 4, 3) := by decide +kernel
theorem dX10_at_23 : decode cX10_at 23 = .ok (.iconst (-1), 1) := by decide +kernel
theorem dX10_at_24 : decode cX10_at 24 = .ok (.ireturn, 1) := by decide +kernel
theorem dX10_flip_0 : decode cX10_flip 0 = .ok (.iload_n 1, 1) := by decide +kernel
theorem dX10_flip_1 : decode cX10_flip 1 = .ok (.invokestatic 222, 3) := by decide +kernel
theorem dX10_flip_4 : decode cX10_flip 4 = .ok (.ifCond .ne 6, 3) := by decide +kernel
theorem dX10_flip_7 : decode cX10_flip 7 = .ok (.bipush (-101), 2) := by decide +kernel
theorem dX10_flip_9 : decode cX10_flip 9 = .ok (.ireturn, 1) := by decide +kernel
theorem dX10_flip_10 : decode cX10_flip 10 = .ok (.iload_n 2, 1) := by decide +kernel
theorem dX10_flip_11 : decode cX10_flip 11 = .ok (.iconst 0, 1) := by decide +kernel
theorem dX10_flip_12 : decode cX10_flip 12 = .ok (.bipush 31, 2) := by decide +kernel
theorem dX10_flip_14 : decode cX10_flip 14 = .ok (.invokestatic 131, 3) := by decide +kernel
theorem dX10_flip_17 : decode cX10_flip 17 = .ok (.ifCond .eq 13, 3) := by decide +kernel
theorem dX10_flip_20 : decode cX10_flip 20 = .ok (.iload_n 3, 1) := by decide +kernel
theorem dX10_flip_21 : decode cX10_flip 21 = .ok (.iconst 0, 1) := by decide +kernel
theorem dX10_flip_22 : decode cX10_flip 22 = .ok (.bipush 7, 2) := by decide +kernel
theorem dX10_flip_24 : decode cX10_flip 24 = .ok (.invokestatic 131, 3) := by decide +kernel
theorem dX10_flip_27 : decode cX10_flip 27 = .ok (.ifCond .ne 6, 3) := by decide +kernel
theorem dX10_flip_30 : decode cX10_flip 30 = .ok (.bipush (-102), 2) := by decide +kernel
theorem dX10_flip_32 : decode cX10_flip 32 = .ok (.ireturn, 1) := by decide +kernel
theorem dX10_flip_33 : decode cX10_flip 33 = .ok (.bipush 8, 2) := by decide +kernel
theorem dX10_flip_35 : decode cX10_flip 35 = .ok (.iload_n 2, 1) := by decide +kernel
theorem dX10_flip_36 : decode cX10_flip 36 = .ok (.bipush 7, 2) := by decide +kernel
theorem dX10_flip_38 : decode cX10_flip 38 = .ok (.iand, 1) := by decide +kernel
theorem dX10_flip_39 : decode cX10_flip 39 = .ok (.imul, 1) := by decide +kernel
theorem dX10_flip_40 : decode cX10_flip 40 = .ok (.iload_n 3, 1) := by decide +kernel
theorem dX10_flip_41 : decode cX10_flip 41 = .ok (.iadd, 1) := by decide +kernel
theorem dX10_flip_42 : decode cX10_flip 42 = .ok (.istore 4, 2) := by decide +kernel
theorem dX10_flip_44 : decode cX10_flip 44 = .ok (.aload_n 0, 1) := by decide +kernel
theorem dX10_flip_45 : decode cX10_flip 45 = .ok (.getfield 7, 3) := by decide +kernel
theorem dX10_flip_48 : decode cX10_flip 48 = .ok (.iconst 4, 1) := by decide +kernel
theorem dX10_flip_49 : decode cX10_flip 49 = .ok (.iload_n 1, 1) := by decide +kernel
theorem dX10_flip_50 : decode cX10_flip 50 = .ok (.imul, 1) := by decide +kernel
theorem dX10_flip_51 : decode cX10_flip 51 = .ok (.iload_n 2, 1) := by decide +kernel
theorem dX10_flip_52 : decode cX10_flip 52 = .ok (.iconst 3, 1) := by decide +kernel
theorem dX10_flip_53 : decode cX10_flip 53 = .ok (.ishr, 1) := by decide +kernel
theorem dX10_flip_54 : decode cX10_flip 54 = .ok (.iadd, 1) := by decide +kernel
theorem dX10_flip_55 : decode cX10_flip 55 = .ok (.dup2, 1) := by decide +kernel
theorem dX10_flip_56 : decode cX10_flip 56 = .ok (.laload, 1) := by decide +kernel
theorem dX10_flip_57 : decode cX10_flip 57 = .ok (.lconst 1, 1) := by decide +kernel
theorem dX10_flip_58 : decode cX10_flip 58 = .ok (.iload 4, 2) := by decide +kernel
theorem dX10_flip_60 : decode cX10_flip 60 = .ok (.lshl, 1) := by decide +kernel
theorem dX10_flip_61 : decode cX10_flip 61 = .ok (.lxor, 1) := by decide +kernel
theorem dX10_flip_62 : decode cX10_flip 62 = .ok (.lastore, 1) := by decide +kernel
theorem dX10_flip_63 : decode cX10_flip 63 = .ok (.aload_n 0, 1) := by decide +kernel
theorem dX10_flip_64 : decode cX10_flip 64 = .ok (.getfield 7, 3) := by decide +kernel
theorem dX10_flip_67 : decode cX10_flip 67 = .ok (.iconst 4, 1) := by decide +kernel
theorem dX10_flip_68 : decode cX10_flip 68 = .ok (.iload_n 1, 1) := by decide +kernel
theorem dX10_flip_69 : decode cX10_flip 69 = .ok (.imul, 1) := by decide +kernel
theorem dX10_flip_70 : decode cX10_flip 70 = .ok (.iload_n 2, 1) := by decide +kernel
theorem dX10_flip_71 : decode cX10_flip 71 = .ok (.iconst 3, 1) := by decide +kernel
theorem dX10_flip_72 : decode cX10_flip 72 = .ok (.ishr, 1) := by decide +kernel
theorem dX10_flip_73 : decode cX10_flip 73 = .ok (.iadd, 1) := by decide +kernel
theorem dX10_flip_74 : decode cX10_flip 74 = .ok (.laload, 1) := by decide +kernel
theorem dX10_flip_75 : decode cX10_flip 75 = .ok (.iload 4, 2) := by decide +kernel
theorem dX10_flip_77 : decode cX10_flip 77 = .ok (.lushr, 1) := by decide +kernel
theorem dX10_flip_78 : decode cX10_flip 78 = .ok (.l2i, 1) := by decide +kernel
theorem dX10_flip_79 : decode cX10_flip 79 = .ok (.iconst 1, 1) := by decide +kernel
theorem dX10_flip_80 : decode cX10_flip 80 = .ok (.iand, 1) := by decide +kernel
theorem dX10_flip_81 : decode cX10_flip 81 = .ok (.ireturn, 1) := by decide +kernel
theorem dX10_load_0 : decode cX10_load 0 = .ok (.aload_n 0, 1) := by decide +kernel
theorem dX10_load_1 : decode cX10_load 1 = .ok (.iconst 4, 1) := by decide +kernel
theorem dX10_load_2 : decode cX10_load 2 = .ok (.iload_n 2, 1) := by decide +kernel
theorem dX10_load_3 : decode cX10_load 3 = .ok (.invokevirtual 225, 3) := by decide +kernel
theorem dX10_load_6 : decode cX10_load 6 = .ok (.aload_n 0, 1) := by decide +kernel
theorem dX10_load_7 : decode cX10_load 7 = .ok (.iload_n 1, 1) := by decide +kernel
theorem dX10_load_8 : decode cX10_load 8 = .ok (.iconst 4, 1) := by decide +kernel
theorem dX10_load_9 : decode cX10_load 9 = .ok (.invokevirtual 181, 3) := by decide +kernel
theorem dX10_load_12 : decode cX10_load 12 = .ok (.return_, 1) := by decide +kernel
theorem dX10_store_0 : decode cX10_store 0 = .ok (.aload_n 0, 1) := by decide +kernel
theorem dX10_store_1 : decode cX10_store 1 = .ok (.iconst 4, 1) := by decide +kernel
theorem dX10_store_2 : decode cX10_store 2 = .ok (.iload_n 2, 1) := by decide +kernel
theorem dX10_store_3 : decode cX10_store 3 = .ok (.invokevirtual 121, 3) := by decide +kernel
theorem dX10_store_6 : decode cX10_store 6 = .ok (.aload_n 0, 1) := by decide +kernel
theorem dX10_store_7 : decode cX10_store 7 = .ok (.iload_n 1, 1) := by decide +kernel
theorem dX10_store_8 : decode cX10_store 8 = .ok (.iconst 4, 1) := by decide +kernel
theorem dX10_store_9 : decode cX10_store 9 = .ok (.invokevirtual 228, 3) := by decide +kernel
theorem dX10_store_12 : decode cX10_store 12 = .ok (.return_, 1) := by decide +kernel
theorem dX10_field_0 : decode cX10_field 0 = .ok (.iload_n 2, 1) := by decide +kernel
theorem dX10_field_1 : decode cX10_field 1 = .ok (.invokestatic 222, 3) := by decide +kernel
theorem dX10_field_4 : decode cX10_field 4 = .ok (.ifCond .eq 18, 3) := by decide +kernel
theorem dX10_field_7 : decode cX10_field 7 = .ok (.iload_n 3, 1) := by decide +kernel
theorem dX10_field_8 : decode cX10_field 8 = .ok (.invokestatic 222, 3) := by decide +kernel
theorem dX10_field_11 : decode cX10_field 11 = .ok (.ifCond .eq 11, 3) := by decide +kernel
theorem dX10_field_14 : decode cX10_field 14 = .ok (.iload 4, 2) := by decide +kernel
theorem dX10_field_16 : decode cX10_field 16 = .ok (.invokestatic 222, 3) := by decide +kernel
theorem dX10_field_19 : decode cX10_field 19 = .ok (.ifCond .ne 6, 3) := by decide +kernel
theorem dX10_field_22 : decode cX10_field 22 = .ok (.bipush (-101), 2) := by decide +kernel
theorem dX10_field_24 : decode cX10_field 24 = .ok (.ireturn, 1) := by decide +kernel
theorem dX10_field_25 : decode cX10_field 25 = .ok (.iload_n 1, 1) := by decide +kernel
theorem dX10_field_26 : decode cX10_field 26 = .ok (.iconst 0, 1) := by decide +kernel
theorem dX10_field_27 : decode cX10_field 27 = .ok (.iconst 3, 1) := by decide +kernel
theorem dX10_field_28 : decode cX10_field 28 = .ok (.invokestatic 131, 3) := by decide +kernel
theorem dX10_field_31 : decode cX10_field 31 = .ok (.ifCond .ne 6, 3) := by decide +kernel
theorem dX10_field_34 : decode cX10_field 34 = .ok (.bipush (-102), 2) := by decide +kernel
theorem dX10_field_36 : decode cX10_field 36 = .ok (.ireturn, 1) := by decide +kernel
theorem dX10_field_37 : decode cX10_field 37 = .ok (.aload_n 0, 1) := by decide +kernel
theorem dX10_field_38 : decode cX10_field 38 = .ok (.bipush 40, 2) := by decide +kernel
theorem dX10_field_40 : decode cX10_field 40 = .ok (.iload_n 2, 1) := by decide +kernel
theorem dX10_field_41 : decode cX10_field 41 = .ok (.invokevirtual 231, 3) := by decide +kernel
theorem dX10_field_44 : decode cX10_field 44 = .ok (.aload_n 0, 1) := by decide +kernel
theorem dX10_field_45 : decode cX10_field 45 = .ok (.bipush 36, 2) := by decide +kernel
theorem dX10_field_47 : decode cX10_field 47 = .ok (.iload_n 3, 1) := by decide +kernel
theorem dX10_field_48 : decode cX10_field 48 = .ok (.invokevirtual 231, 3) := by decide +kernel
theorem dX10_field_51 : decode cX10_field 51 = .ok (.iload_n 1, 1) := by decide +kernel
theorem dX10_field_52 : decode cX10_field 52 = .ok (.iconst 3, 1) := by decide +kernel
theorem dX10_field_53 : decode cX10_field 53 = .ok (.if_icmp .ne 16, 3) := by decide +kernel
theorem dX10_field_56 : decode cX10_field 56 = .ok (.aload_n 0, 1) := by decide +kernel
theorem dX10_field_57 : decode cX10_field 57 = .ok (.bipush 36, 2) := by decide +kernel
theorem dX10_field_59 : decode cX10_field 59 = .ok (.iconst 0, 1) := by decide +kernel
theorem dX10_field_60 : decode cX10_field 60 = .ok (.invokevirtual 168, 3) := by decide +kernel
theorem dX10_field_63 : decode cX10_field 63 = .ok (.ifCond .eq 6, 3) := by decide +kernel
theorem dX10_field_66 : decode cX10_field 66 = .ok (.bipush (-103), 2) := by decide +kernel
theorem dX10_field_68 : decode cX10_field 68 = .ok (.ireturn, 1) := by decide +kernel
theorem dX10_field_69 : decode cX10_field 69 = .ok (.iload_n 1, 1) := by decide +kernel
theorem dX10_field_70 : decode cX10_field 70 = .ok (.ifCond .ne 16, 3) := by decide +kernel
theorem dX10_field_73 : decode cX10_field 73 = .ok (.aload_n 0, 1) := by decide +kernel
theorem dX10_field_74 : decode cX10_field 74 = .ok (.bipush 38, 2) := by decide +kernel
theorem dX10_field_76 : decode cX10_field 76 = .ok (.bipush 40, 2) := by decide +kernel
theorem dX10_field_78 : decode cX10_field 78 = .ok (.bipush 36, 2) := by decide +kernel
theorem dX10_field_80 : decode cX10_field 80 = .ok (.invokevirtual 110, 3) := by decide +kernel
theorem dX10_field_83 : decode cX10_field 83 = .ok (.goto 57, 3) := by decide +kernel
theorem dX10_field_86 : decode cX10_field 86 = .ok (.iload_n 1, 1) := by decide +kernel
theorem dX10_field_87 : decode cX10_field 87 = .ok (.iconst 1, 1) := by decide +kernel
theorem dX10_field_88 : decode cX10_field 88 = .ok (.if_icmp .ne 16, 3) := by decide +kernel
theorem dX10_field_91 : decode cX10_field 91 = .ok (.aload_n 0, 1) := by decide +kernel
theorem dX10_field_92 : decode cX10_field 92 = .ok (.bipush 38, 2) := by decide +kernel
theorem dX10_field_94 : decode cX10_field 94 = .ok (.bipush 40, 2) := by decide +kernel
theorem dX10_field_96 : decode cX10_field 96 = .ok (.bipush 36, 2) := by decide +kernel
theorem dX10_field_98 : decode cX10_field 98 = .ok (.invokevirtual 98, 3) := by decide +kernel
theorem dX10_field_101 : decode cX10_field 101 = .ok (.goto 39, 3) := by decide +kernel
theorem dX10_field_104 : decode cX10_field 104 = .ok (.iload_n 1, 1) := by decide +kernel
theorem dX10_field_105 : decode cX10_field 105 = .ok (.iconst 2, 1) := by decide +kernel
theorem dX10_field_106 : decode cX10_field 106 = .ok (.if_icmp .ne 16, 3) := by decide +kernel
theorem dX10_field_109 : decode cX10_field 109 = .ok (.aload_n 0, 1) := by decide +kernel
theorem dX10_field_110 : decode cX10_field 110 = .ok (.bipush 38, 2) := by decide +kernel
theorem dX10_field_112 : decode cX10_field 112 = .ok (.bipush 40, 2) := by decide +kernel
theorem dX10_field_114 : decode cX10_field 114 = .ok (.bipush 36, 2) := by decide +kernel
theorem dX10_field_116 : decode cX10_field 116 = .ok (.invokevirtual 107, 3) := by decide +kernel
theorem dX10_field_119 : decode cX10_field 119 = .ok (.goto 21, 3) := by decide +kernel
theorem dX10_field_122 : decode cX10_field 122 = .ok (.aload_n 0, 1) := by decide +kernel
theorem dX10_field_123 : decode cX10_field 123 = .ok (.bipush 37, 2) := by decide +kernel
theorem dX10_field_125 : decode cX10_field 125 = .ok (.bipush 36, 2) := by decide +kernel
theorem dX10_field_127 : decode cX10_field 127 = .ok (.invokevirtual 103, 3) := by decide +kernel
theorem dX10_field_130 : decode cX10_field 130 = .ok (.aload_n 0, 1) := by decide +kernel
theorem dX10_field_131 : decode cX10_field 131 = .ok (.bipush 38, 2) := by decide +kernel
theorem dX10_field_133 : decode cX10_field 133 = .ok (.bipush 40, 2) := by decide +kernel
theorem dX10_field_135 : decode cX10_field 135 = .ok (.bipush 37, 2) := by decide +kernel
theorem dX10_field_137 : decode cX10_field 137 = .ok (.invokevirtual 107, 3) := by decide +kernel
theorem dX10_field_140 : decode cX10_field 140 = .ok (.aload_n 0, 1) := by decide +kernel
theorem dX10_field_141 : decode cX10_field 141 = .ok (.iload 4, 2) := by decide +kernel
theorem dX10_field_143 : decode cX10_field 143 = .ok (.bipush 38, 2) := by decide +kernel
theorem dX10_field_145 : decode cX10_field 145 = .ok (.invokevirtual 234, 3) := by decide +kernel
theorem dX10_field_148 : decode cX10_field 148 = .ok (.iconst 1, 1) := by decide +kernel
theorem dX10_field_149 : decode cX10_field 149 = .ok (.ireturn, 1) := by decide +kernel
theorem dX10_power_0 : decode cX10_power 0 = .ok (.iload_n 1, 1) := by decide +kernel
theorem dX10_power_1 : decode cX10_power 1 = .ok (.invokestatic 222, 3) := by decide +kernel
theorem dX10_power_4 : decode cX10_power 4 = .ok (.ifCond .eq 17, 3) := by decide +kernel
theorem dX10_power_7 : decode cX10_power 7 = .ok (.iload_n 2, 1) := by decide +kernel
theorem dX10_power_8 : decode cX10_power 8 = .ok (.invokestatic 222, 3) := by decide +kernel
theorem dX10_power_11 : decode cX10_power 11 = .ok (.ifCond .eq 10, 3) := by decide +kernel
theorem dX10_power_14 : decode cX10_power 14 = .ok (.iload_n 3, 1) := by decide +kernel
theorem dX10_power_15 : decode cX10_power 15 = .ok (.invokestatic 222, 3) := by decide +kernel
theorem dX10_power_18 : decode cX10_power 18 = .ok (.ifCond .ne 6, 3) := by decide +kernel
theorem dX10_power_21 : decode cX10_power 21 = .ok (.bipush (-101), 2) := by decide +kernel
theorem dX10_power_23 : decode cX10_power 23 = .ok (.ireturn, 1) := by decide +kernel
theorem dX10_power_24 : decode cX10_power 24 = .ok (.aload_n 0, 1) := by decide +kernel
theorem dX10_power_25 : decode cX10_power 25 = .ok (.bipush 40, 2) := by decide +kernel
theorem dX10_power_27 : decode cX10_power 27 = .ok (.iload_n 1, 1) := by decide +kernel
theorem dX10_power_28 : decode cX10_power 28 = .ok (.invokevirtual 231, 3) := by decide +kernel
theorem dX10_power_31 : decode cX10_power 31 = .ok (.aload_n 0, 1) := by decide +kernel
theorem dX10_power_32 : decode cX10_power 32 = .ok (.bipush 8, 2) := by decide +kernel
theorem dX10_power_34 : decode cX10_power 34 = .ok (.iload_n 2, 1) := by decide +kernel
theorem dX10_power_35 : decode cX10_power 35 = .ok (.invokevirtual 225, 3) := by decide +kernel
theorem dX10_power_38 : decode cX10_power 38 = .ok (.aload_n 0, 1) := by decide +kernel
theorem dX10_power_39 : decode cX10_power 39 = .ok (.bipush 36, 2) := by decide +kernel
theorem dX10_power_41 : decode cX10_power 41 = .ok (.bipush 40, 2) := by decide +kernel
theorem dX10_power_43 : decode cX10_power 43 = .ok (.bipush 8, 2) := by decide +kernel
theorem dX10_power_45 : decode cX10_power 45 = .ok (.invokevirtual 92, 3) := by decide +kernel
theorem dX10_power_48 : decode cX10_power 48 = .ok (.aload_n 0, 1) := by decide +kernel
theorem dX10_power_49 : decode cX10_power 49 = .ok (.iload_n 3, 1) := by decide +kernel
theorem dX10_power_50 : decode cX10_power 50 = .ok (.bipush 36, 2) := by decide +kernel
theorem dX10_power_52 : decode cX10_power 52 = .ok (.invokevirtual 234, 3) := by decide +kernel
theorem dX10_power_55 : decode cX10_power 55 = .ok (.iconst 1, 1) := by decide +kernel
theorem dX10_power_56 : decode cX10_power 56 = .ok (.ireturn, 1) := by decide +kernel
theorem dX10_root_0 : decode cX10_root 0 = .ok (.iload_n 1, 1) := by decide +kernel
theorem dX10_root_1 : decode cX10_root 1 = .ok (.invokestatic 222, 3) := by decide +kernel
theorem dX10_root_4 : decode cX10_root 4 = .ok (.ifCond .eq 10, 3) := by decide +kernel
theorem dX10_root_7 : decode cX10_root 7 = .ok (.iload_n 2, 1) := by decide +kernel
theorem dX10_root_8 : decode cX10_root 8 = .ok (.invokestatic 222, 3) := by decide +kernel
theorem dX10_root_11 : decode cX10_root 11 = .ok (.ifCond .ne 6, 3) := by decide +kernel
theorem dX10_root_14 : decode cX10_root 14 = .ok (.bipush (-101), 2) := by decide +kernel
theorem dX10_root_16 : decode cX10_root 16 = .ok (.ireturn, 1) := by decide +kernel
theorem dX10_root_17 : decode cX10_root 17 = .ok (.aload_n 0, 1) := by decide +kernel
theorem dX10_root_18 : decode cX10_root 18 = .ok (.bipush 40, 2) := by decide +kernel
theorem dX10_root_20 : decode cX10_root 20 = .ok (.iload_n 1, 1) := by decide +kernel
theorem dX10_root_21 : decode cX10_root 21 = .ok (.invokevirtual 231, 3) := by decide +kernel
theorem dX10_root_24 : decode cX10_root 24 = .ok (.aload_n 0, 1) := by decide +kernel
theorem dX10_root_25 : decode cX10_root 25 = .ok (.bipush 36, 2) := by decide +kernel
theorem dX10_root_27 : decode cX10_root 27 = .ok (.bipush 40, 2) := by decide +kernel
theorem dX10_root_29 : decode cX10_root 29 = .ok (.invokevirtual 184, 3) := by decide +kernel
theorem dX10_root_32 : decode cX10_root 32 = .ok (.ifCond .ne 5, 3) := by decide +kernel
theorem dX10_root_35 : decode cX10_root 35 = .ok (.iconst 0, 1) := by decide +kernel
theorem dX10_root_36 : decode cX10_root 36 = .ok (.ireturn, 1) := by decide +kernel
theorem dX10_root_37 : decode cX10_root 37 = .ok (.aload_n 0, 1) := by decide +kernel
theorem dX10_root_38 : decode cX10_root 38 = .ok (.bipush 36, 2) := by decide +kernel
theorem dX10_root_40 : decode cX10_root 40 = .ok (.invokevirtual 177, 3) := by decide +kernel
theorem dX10_root_43 : decode cX10_root 43 = .ok (.iconst 1, 1) := by decide +kernel
theorem dX10_root_44 : decode cX10_root 44 = .ok (.if_icmp .ne 12, 3) := by decide +kernel
theorem dX10_root_47 : decode cX10_root 47 = .ok (.aload_n 0, 1) := by decide +kernel
theorem dX10_root_48 : decode cX10_root 48 = .ok (.bipush 36, 2) := by decide +kernel
theorem dX10_root_50 : decode cX10_root 50 = .ok (.iconst 0, 1) := by decide +kernel
theorem dX10_root_51 : decode cX10_root 51 = .ok (.bipush 36, 2) := by decide +kernel
theorem dX10_root_53 : decode cX10_root 53 = .ok (.invokevirtual 98, 3) := by decide +kernel
theorem dX10_root_56 : decode cX10_root 56 = .ok (.aload_n 0, 1) := by decide +kernel
theorem dX10_root_57 : decode cX10_root 57 = .ok (.iload_n 2, 1) := by decide +kernel
theorem dX10_root_58 : decode cX10_root 58 = .ok (.bipush 36, 2) := by decide +kernel
theorem dX10_root_60 : decode cX10_root 60 = .ok (.invokevirtual 234, 3) := by decide +kernel
theorem dX10_root_63 : decode cX10_root 63 = .ok (.iconst 1, 1) := by decide +kernel
theorem dX10_root_64 : decode cX10_root 64 = .ok (.ireturn, 1) := by decide +kernel
theorem dX10_about_0 : decode cX10_about 0 = .ok (.iload_n 1, 1) := by decide +kernel
theorem dX10_about_1 : decode cX10_about 1 = .ok (.invokestatic 222, 3) := by decide +kernel
theorem dX10_about_4 : decode cX10_about 4 = .ok (.ifCond .ne 6, 3) := by decide +kernel
theorem dX10_about_7 : decode cX10_about 7 = .ok (.bipush (-101), 2) := by decide +kernel
theorem dX10_about_9 : decode cX10_about 9 = .ok (.ireturn, 1) := by decide +kernel
theorem dX10_about_10 : decode cX10_about 10 = .ok (.aload_n 0, 1) := by decide +kernel
theorem dX10_about_11 : decode cX10_about 11 = .ok (.iconst 4, 1) := by decide +kernel
theorem dX10_about_12 : decode cX10_about 12 = .ok (.iload_n 1, 1) := by decide +kernel
theorem dX10_about_13 : decode cX10_about 13 = .ok (.invokevirtual 225, 3) := by decide +kernel
theorem dX10_about_16 : decode cX10_about 16 = .ok (.iload_n 2, 1) := by decide +kernel
theorem dX10_about_17 : decode cX10_about 17 = .ok (.tableswitch 131 0 4 #[35, 51, 67, 90, 104], 35) := by decide +kernel
theorem dX10_about_52 : decode cX10_about 52 = .ok (.aload_n 0, 1) := by decide +kernel
theorem dX10_about_53 : decode cX10_about 53 = .ok (.iconst 4, 1) := by decide +kernel
theorem dX10_about_54 : decode cX10_about 54 = .ok (.bipush 36, 2) := by decide +kernel
theorem dX10_about_56 : decode cX10_about 56 = .ok (.invokevirtual 161, 3) := by decide +kernel
theorem dX10_about_59 : decode cX10_about 59 = .ok (.ifCond .ge 7, 3) := by decide +kernel
theorem dX10_about_62 : decode cX10_about 62 = .ok (.iconst 1, 1) := by decide +kernel
theorem dX10_about_63 : decode cX10_about 63 = .ok (.goto 4, 3) := by decide +kernel
theorem dX10_about_66 : decode cX10_about 66 = .ok (.iconst 0, 1) := by decide +kernel
theorem dX10_about_67 : decode cX10_about 67 = .ok (.ireturn, 1) := by decide +kernel
theorem dX10_about_68 : decode cX10_about 68 = .ok (.aload_n 0, 1) := by decide +kernel
theorem dX10_about_69 : decode cX10_about 69 = .ok (.iconst 4, 1) := by decide +kernel
theorem dX10_about_70 : decode cX10_about 70 = .ok (.bipush 32, 2) := by decide +kernel
theorem dX10_about_72 : decode cX10_about 72 = .ok (.invokevirtual 161, 3) := by decide +kernel
theorem dX10_about_75 : decode cX10_about 75 = .ok (.ifCond .ge 7, 3) := by decide +kernel
theorem dX10_about_78 : decode cX10_about 78 = .ok (.iconst 1, 1) := by decide +kernel
theorem dX10_about_79 : decode cX10_about 79 = .ok (.goto 4, 3) := by decide +kernel
theorem dX10_about_82 : decode cX10_about 82 = .ok (.iconst 0, 1) := by decide +kernel
theorem dX10_about_83 : decode cX10_about 83 = .ok (.ireturn, 1) := by decide +kernel
theorem dX10_about_84 : decode cX10_about 84 = .ok (.aload_n 0, 1) := by decide +kernel
theorem dX10_about_85 : decode cX10_about 85 = .ok (.bipush 40, 2) := by decide +kernel
theorem dX10_about_87 : decode cX10_about 87 = .ok (.iconst 4, 1) := by decide +kernel
theorem dX10_about_88 : decode cX10_about 88 = .ok (.invokevirtual 181, 3) := by decide +kernel
theorem dX10_about_91 : decode cX10_about 91 = .ok (.aload_n 0, 1) := by decide +kernel
theorem dX10_about_92 : decode cX10_about 92 = .ok (.bipush 40, 2) := by decide +kernel
theorem dX10_about_94 : decode cX10_about 94 = .ok (.iconst 0, 1) := by decide +kernel
theorem dX10_about_95 : decode cX10_about 95 = .ok (.invokevirtual 168, 3) := by decide +kernel
theorem dX10_about_98 : decode cX10_about 98 = .ok (.ifCond .eq 7, 3) := by decide +kernel
theorem dX10_about_101 : decode cX10_about 101 = .ok (.iconst 1, 1) := by decide +kernel
theorem dX10_about_102 : decode cX10_about 102 = .ok (.goto 4, 3) := by decide +kernel
theorem dX10_about_105 : decode cX10_about 105 = .ok (.iconst 0, 1) := by decide +kernel
theorem dX10_about_106 : decode cX10_about 106 = .ok (.ireturn, 1) := by decide +kernel
theorem dX10_about_107 : decode cX10_about 107 = .ok (.aload_n 0, 1) := by decide +kernel
theorem dX10_about_108 : decode cX10_about 108 = .ok (.bipush 40, 2) := by decide +kernel
theorem dX10_about_110 : decode cX10_about 110 = .ok (.iconst 4, 1) := by decide +kernel
theorem dX10_about_111 : decode cX10_about 111 = .ok (.invokevirtual 181, 3) := by decide +kernel
theorem dX10_about_114 : decode cX10_about 114 = .ok (.aload_n 0, 1) := by decide +kernel
theorem dX10_about_115 : decode cX10_about 115 = .ok (.bipush 40, 2) := by decide +kernel
theorem dX10_about_117 : decode cX10_about 117 = .ok (.invokevirtual 177, 3) := by decide +kernel
theorem dX10_about_120 : decode cX10_about 120 = .ok (.ireturn, 1) := by decide +kernel
theorem dX10_about_121 : decode cX10_about 121 = .ok (.sipush 256, 3) := by decide +kernel
theorem dX10_about_124 : decode cX10_about 124 = .ok (.istore_n 3, 1) := by decide +kernel
theorem dX10_about_125 : decode cX10_about 125 = .ok (.iload_n 3, 1) := by decide +kernel
theorem dX10_about_126 : decode cX10_about 126 = .ok (.ifCond .le 20, 3) := by decide +kernel
theorem dX10_about_129 : decode cX10_about 129 = .ok (.aload_n 0, 1) := by decide +kernel
theorem dX10_about_130 : decode cX10_about 130 = .ok (.iconst 4, 1) := by decide +kernel
theorem dX10_about_131 : decode cX10_about 131 = .ok (.iload_n 3, 1) := by decide +kernel
theorem dX10_about_132 : decode cX10_about 132 = .ok (.iconst 1, 1) := by decide +kernel
theorem dX10_about_133 : decode cX10_about 133 = .ok (.isub, 1) := by decide +kernel
theorem dX10_about_134 : decode cX10_about 134 = .ok (.invokevirtual 148, 3) := by decide +kernel
theorem dX10_about_137 : decode cX10_about 137 = .ok (.ifCond .ne 9, 3) := by decide +kernel
theorem dX10_about_140 : decode cX10_about 140 = .ok (.iinc 3 (-1), 3) := by decide +kernel
theorem dX10_about_143 : decode cX10_about 143 = .ok (.goto (-18), 3) := by decide +kernel
theorem dX10_about_146 : decode cX10_about 146 = .ok (.iload_n 3, 1) := by decide +kernel
theorem dX10_about_147 : decode cX10_about 147 = .ok (.ireturn, 1) := by decide +kernel
theorem dX10_about_148 : decode cX10_about 148 = .ok (.bipush (-102), 2) := by decide +kernel
theorem dX10_about_150 : decode cX10_about 150 = .ok (.ireturn, 1) := by decide +kernel
theorem dX10_compare_0 : decode cX10_compare 0 = .ok (.iload_n 1, 1) := by decide +kernel
theorem dX10_compare_1 : decode cX10_compare 1 = .ok (.invokestatic 222, 3) := by decide +kernel
theorem dX10_compare_4 : decode cX10_compare 4 = .ok (.ifCond .eq 10, 3) := by decide +kernel
theorem dX10_compare_7 : decode cX10_compare 7 = .ok (.iload_n 2, 1) := by decide +kernel
theorem dX10_compare_8 : decode cX10_compare 8 = .ok (.invokestatic 222, 3) := by decide +kernel
theorem dX10_compare_11 : decode cX10_compare 11 = .ok (.ifCond .ne 6, 3) := by decide +kernel
theorem dX10_compare_14 : decode cX10_compare 14 = .ok (.bipush (-101), 2) := by decide +kernel
theorem dX10_compare_16 : decode cX10_compare 16 = .ok (.ireturn, 1) := by decide +kernel
theorem dX10_compare_17 : decode cX10_compare 17 = .ok (.aload_n 0, 1) := by decide +kernel
theorem dX10_compare_18 : decode cX10_compare 18 = .ok (.iconst 4, 1) := by decide +kernel
theorem dX10_compare_19 : decode cX10_compare 19 = .ok (.iload_n 1, 1) := by decide +kernel
theorem dX10_compare_20 : decode cX10_compare 20 = .ok (.invokevirtual 225, 3) := by decide +kernel
theorem dX10_compare_23 : decode cX10_compare 23 = .ok (.aload_n 0, 1) := by decide +kernel
theorem dX10_compare_24 : decode cX10_compare 24 = .ok (.bipush 8, 2) := by decide +kernel
theorem dX10_compare_26 : decode cX10_compare 26 = .ok (.iload_n 2, 1) := by decide +kernel
theorem dX10_compare_27 : decode cX10_compare 27 = .ok (.invokevirtual 225, 3) := by decide +kernel
theorem dX10_compare_30 : decode cX10_compare 30 = .ok (.aload_n 0, 1) := by decide +kernel
theorem dX10_compare_31 : decode cX10_compare 31 = .ok (.iconst 4, 1) := by decide +kernel
theorem dX10_compare_32 : decode cX10_compare 32 = .ok (.bipush 8, 2) := by decide +kernel
theorem dX10_compare_34 : decode cX10_compare 34 = .ok (.invokevirtual 161, 3) := by decide +kernel
theorem dX10_compare_37 : decode cX10_compare 37 = .ok (.ireturn, 1) := by decide +kernel
theorem dX10_scalar_0 : decode cX10_scalar 0 = .ok (.iload_n 1, 1) := by decide +kernel
theorem dX10_scalar_1 : decode cX10_scalar 1 = .ok (.invokestatic 222, 3) := by decide +kernel
theorem dX10_scalar_4 : decode cX10_scalar 4 = .ok (.ifCond .eq 25, 3) := by decide +kernel
theorem dX10_scalar_7 : decode cX10_scalar 7 = .ok (.iload_n 2, 1) := by decide +kernel
theorem dX10_scalar_8 : decode cX10_scalar 8 = .ok (.invokestatic 222, 3) := by decide +kernel
theorem dX10_scalar_11 : decode cX10_scalar 11 = .ok (.ifCond .eq 18, 3) := by decide +kernel
theorem dX10_scalar_14 : decode cX10_scalar 14 = .ok (.iload_n 3, 1) := by decide +kernel
theorem dX10_scalar_15 : decode cX10_scalar 15 = .ok (.invokestatic 222, 3) := by decide +kernel
theorem dX10_scalar_18 : decode cX10_scalar 18 = .ok (.ifCond .eq 11, 3) := by decide +kernel
theorem dX10_scalar_21 : decode cX10_scalar 21 = .ok (.iload 4, 2) := by decide +kernel
theorem dX10_scalar_23 : decode cX10_scalar 23 = .ok (.invokestatic 222, 3) := by decide +kernel
theorem dX10_scalar_26 : decode cX10_scalar 26 = .ok (.ifCond .ne 6, 3) := by decide +kernel
theorem dX10_scalar_29 : decode cX10_scalar 29 = .ok (.bipush (-101), 2) := by decide +kernel
theorem dX10_scalar_31 : decode cX10_scalar 31 = .ok (.ireturn, 1) := by decide +kernel
theorem dX10_scalar_32 : decode cX10_scalar 32 = .ok (.aload_n 0, 1) := by decide +kernel
theorem dX10_scalar_33 : decode cX10_scalar 33 = .ok (.iconst 4, 1) := by decide +kernel
theorem dX10_scalar_34 : decode cX10_scalar 34 = .ok (.iload_n 1, 1) := by decide +kernel
theorem dX10_scalar_35 : decode cX10_scalar 35 = .ok (.invokevirtual 225, 3) := by decide +kernel
theorem dX10_scalar_38 : decode cX10_scalar 38 = .ok (.aload_n 0, 1) := by decide +kernel
theorem dX10_scalar_39 : decode cX10_scalar 39 = .ok (.bipush 8, 2) := by decide +kernel
theorem dX10_scalar_41 : decode cX10_scalar 41 = .ok (.iload_n 2, 1) := by decide +kernel
theorem dX10_scalar_42 : decode cX10_scalar 42 = .ok (.invokevirtual 225, 3) := by decide +kernel
theorem dX10_scalar_45 : decode cX10_scalar 45 = .ok (.aload_n 0, 1) := by decide +kernel
theorem dX10_scalar_46 : decode cX10_scalar 46 = .ok (.bipush 12, 2) := by decide +kernel
theorem dX10_scalar_48 : decode cX10_scalar 48 = .ok (.iload_n 3, 1) := by decide +kernel
theorem dX10_scalar_49 : decode cX10_scalar 49 = .ok (.invokevirtual 225, 3) := by decide +kernel
theorem dX10_scalar_52 : decode cX10_scalar 52 = .ok (.aload_n 0, 1) := by decide +kernel
theorem dX10_scalar_53 : decode cX10_scalar 53 = .ok (.bipush 16, 2) := by decide +kernel
theorem dX10_scalar_55 : decode cX10_scalar 55 = .ok (.iconst 4, 1) := by decide +kernel
theorem dX10_scalar_56 : decode cX10_scalar 56 = .ok (.bipush 8, 2) := by decide +kernel
theorem dX10_scalar_58 : decode cX10_scalar 58 = .ok (.bipush 12, 2) := by decide +kernel
theorem dX10_scalar_60 : decode cX10_scalar 60 = .ok (.invokevirtual 237, 3) := by decide +kernel
theorem dX10_scalar_63 : decode cX10_scalar 63 = .ok (.aload_n 0, 1) := by decide +kernel
theorem dX10_scalar_64 : decode cX10_scalar 64 = .ok (.iload 4, 2) := by decide +kernel
theorem dX10_scalar_66 : decode cX10_scalar 66 = .ok (.bipush 16, 2) := by decide +kernel
theorem dX10_scalar_68 : decode cX10_scalar 68 = .ok (.invokevirtual 228, 3) := by decide +kernel
theorem dX10_scalar_71 : decode cX10_scalar 71 = .ok (.iconst 1, 1) := by decide +kernel
theorem dX10_scalar_72 : decode cX10_scalar 72 = .ok (.ireturn, 1) := by decide +kernel
theorem dX10_opens_0 : decode cX10_opens 0 = .ok (.aload_n 0, 1) := by decide +kernel
theorem dX10_opens_1 : decode cX10_opens 1 = .ok (.iconst 4, 1) := by decide +kernel
theorem dX10_opens_2 : decode cX10_opens 2 = .ok (.iload_n 2, 1) := by decide +kernel
theorem dX10_opens_3 : decode cX10_opens 3 = .ok (.invokevirtual 225, 3) := by decide +kernel
theorem dX10_opens_6 : decode cX10_opens 6 = .ok (.aload_n 0, 1) := by decide +kernel
theorem dX10_opens_7 : decode cX10_opens 7 = .ok (.iload_n 1, 1) := by decide +kernel
theorem dX10_opens_8 : decode cX10_opens 8 = .ok (.iconst 4, 1) := by decide +kernel
theorem dX10_opens_9 : decode cX10_opens 9 = .ok (.invokevirtual 124, 3) := by decide +kernel
theorem dX10_opens_12 : decode cX10_opens 12 = .ok (.ireturn, 1) := by decide +kernel
theorem dX10_storePoint_0 : decode cX10_storePoint 0 = .ok (.aload_n 0, 1) := by decide +kernel
theorem dX10_storePoint_1 : decode cX10_storePoint 1 = .ok (.iconst 4, 1) := by decide +kernel
theorem dX10_storePoint_2 : decode cX10_storePoint 2 = .ok (.iload_n 2, 1) := by decide +kernel
theorem dX10_storePoint_3 : decode cX10_storePoint 3 = .ok (.invokevirtual 241, 3) := by decide +kernel
theorem dX10_storePoint_6 : decode cX10_storePoint 6 = .ok (.aload_n 0, 1) := by decide +kernel
theorem dX10_storePoint_7 : decode cX10_storePoint 7 = .ok (.iload_n 1, 1) := by decide +kernel
theorem dX10_storePoint_8 : decode cX10_storePoint 8 = .ok (.iconst 4, 1) := by decide +kernel
theorem dX10_storePoint_9 : decode cX10_storePoint 9 = .ok (.invokevirtual 228, 3) := by decide +kernel
theorem dX10_storePoint_12 : decode cX10_storePoint 12 = .ok (.return_, 1) := by decide +kernel
theorem dX10_isPoint_0 : decode cX10_isPoint 0 = .ok (.iload_n 1, 1) := by decide +kernel
theorem dX10_isPoint_1 : decode cX10_isPoint 1 = .ok (.invokestatic 222, 3) := by decide +kernel
theorem dX10_isPoint_4 : decode cX10_isPoint 4 = .ok (.ifCond .ne 6, 3) := by decide +kernel
theorem dX10_isPoint_7 : decode cX10_isPoint 7 = .ok (.bipush (-101), 2) := by decide +kernel
theorem dX10_isPoint_9 : decode cX10_isPoint 9 = .ok (.ireturn, 1) := by decide +kernel
theorem dX10_isPoint_10 : decode cX10_isPoint 10 = .ok (.aload_n 0, 1) := by decide +kernel
theorem dX10_isPoint_11 : decode cX10_isPoint 11 = .ok (.bipush 10, 2) := by decide +kernel
theorem dX10_isPoint_13 : decode cX10_isPoint 13 = .ok (.iload_n 1, 1) := by decide +kernel
theorem dX10_isPoint_14 : decode cX10_isPoint 14 = .ok (.invokevirtual 244, 3) := by decide +kernel
theorem dX10_isPoint_17 : decode cX10_isPoint 17 = .ok (.ifCond .eq 7, 3) := by decide +kernel
theorem dX10_isPoint_20 : decode cX10_isPoint 20 = .ok (.iconst 1, 1) := by decide +kernel
theorem dX10_isPoint_21 : decode cX10_isPoint 21 = .ok (.goto 4, 3) := by decide +kernel
theorem dX10_isPoint_24 : decode cX10_isPoint 24 = .ok (.iconst 0, 1) := by decide +kernel
theorem dX10_isPoint_25 : decode cX10_isPoint 25 = .ok (.ireturn, 1) := by decide +kernel
theorem dX10_across_0 : decode cX10_across 0 = .ok (.iload_n 1, 1) := by decide +kernel
theorem dX10_across_1 : decode cX10_across 1 = .ok (.invokestatic 222, 3) := by decide +kernel
theorem dX10_across_4 : decode cX10_across 4 = .ok (.ifCond .eq 10, 3) := by decide +kernel
theorem dX10_across_7 : decode cX10_across 7 = .ok (.iload_n 2, 1) := by decide +kernel
theorem dX10_across_8 : decode cX10_across 8 = .ok (.invokestatic 222, 3) := by decide +kernel
theorem dX10_across_11 : decode cX10_across 11 = .ok (.ifCond .ne 6, 3) := by decide +kernel
theorem dX10_across_14 : decode cX10_across 14 = .ok (.bipush (-101), 2) := by decide +kernel
theorem dX10_across_16 : decode cX10_across 16 = .ok (.ireturn, 1) := by decide +kernel
theorem dX10_across_17 : decode cX10_across 17 = .ok (.aload_n 0, 1) := by decide +kernel
theorem dX10_across_18 : decode cX10_across 18 = .ok (.bipush 10, 2) := by decide +kernel
theorem dX10_across_20 : decode cX10_across 20 = .ok (.iload_n 1, 1) := by decide +kernel
theorem dX10_across_21 : decode cX10_across 21 = .ok (.invokevirtual 244, 3) := by decide +kernel
theorem dX10_across_24 : decode cX10_across 24 = .ok (.ifCond .ne 5, 3) := by decide +kernel
theorem dX10_across_27 : decode cX10_across 27 = .ok (.iconst (-1), 1) := by decide +kernel
theorem dX10_across_28 : decode cX10_across 28 = .ok (.ireturn, 1) := by decide +kernel
theorem dX10_across_29 : decode cX10_across 29 = .ok (.aload_n 0, 1) := by decide +kernel
theorem dX10_across_30 : decode cX10_across 30 = .ok (.iload_n 2, 1) := by decide +kernel
theorem dX10_across_31 : decode cX10_across 31 = .ok (.bipush 10, 2) := by decide +kernel
theorem dX10_across_33 : decode cX10_across 33 = .ok (.invokevirtual 234, 3) := by decide +kernel
theorem dX10_across_36 : decode cX10_across 36 = .ok (.iconst 1, 1) := by decide +kernel
theorem dX10_across_37 : decode cX10_across 37 = .ok (.ireturn, 1) := by decide +kernel
theorem dX10_negate_0 : decode cX10_negate 0 = .ok (.aload_n 0, 1) := by decide +kernel
theorem dX10_negate_1 : decode cX10_negate 1 = .ok (.iload_n 1, 1) := by decide +kernel
theorem dX10_negate_2 : decode cX10_negate 2 = .ok (.iconst 0, 1) := by decide +kernel
theorem dX10_negate_3 : decode cX10_negate 3 = .ok (.iload_n 1, 1) := by decide +kernel
theorem dX10_negate_4 : decode cX10_negate 4 = .ok (.invokevirtual 98, 3) := by decide +kernel
theorem dX10_negate_7 : decode cX10_negate 7 = .ok (.aload_n 0, 1) := by decide +kernel
theorem dX10_negate_8 : decode cX10_negate 8 = .ok (.iload_n 1, 1) := by decide +kernel
theorem dX10_negate_9 : decode cX10_negate 9 = .ok (.invokevirtual 113, 3) := by decide +kernel
theorem dX10_negate_12 : decode cX10_negate 12 = .ok (.aload_n 0, 1) := by decide +kernel
theorem dX10_negate_13 : decode cX10_negate 13 = .ok (.iload_n 1, 1) := by decide +kernel
theorem dX10_negate_14 : decode cX10_negate 14 = .ok (.iconst 3, 1) := by decide +kernel
theorem dX10_negate_15 : decode cX10_negate 15 = .ok (.iadd, 1) := by decide +kernel
theorem dX10_negate_16 : decode cX10_negate 16 = .ok (.iconst 0, 1) := by decide +kernel
theorem dX10_negate_17 : decode cX10_negate 17 = .ok (.iload_n 1, 1) := by decide +kernel
theorem dX10_negate_18 : decode cX10_negate 18 = .ok (.iconst 3, 1) := by decide +kernel
theorem dX10_negate_19 : decode cX10_negate 19 = .ok (.iadd, 1) := by decide +kernel
theorem dX10_negate_20 : decode cX10_negate 20 = .ok (.invokevirtual 98, 3) := by decide +kernel
theorem dX10_negate_23 : decode cX10_negate 23 = .ok (.aload_n 0, 1) := by decide +kernel
theorem dX10_negate_24 : decode cX10_negate 24 = .ok (.iload_n 1, 1) := by decide +kernel
theorem dX10_negate_25 : decode cX10_negate 25 = .ok (.iconst 3, 1) := by decide +kernel
theorem dX10_negate_26 : decode cX10_negate 26 = .ok (.iadd, 1) := by decide +kernel
theorem dX10_negate_27 : decode cX10_negate 27 = .ok (.invokevirtual 113, 3) := by decide +kernel
theorem dX10_negate_30 : decode cX10_negate 30 = .ok (.return_, 1) := by decide +kernel
theorem dX10_sum_0 : decode cX10_sum 0 = .ok (.iload_n 2, 1) := by decide +kernel
theorem dX10_sum_1 : decode cX10_sum 1 = .ok (.invokestatic 222, 3) := by decide +kernel
theorem dX10_sum_4 : decode cX10_sum 4 = .ok (.ifCond .eq 18, 3) := by decide +kernel
theorem dX10_sum_7 : decode cX10_sum 7 = .ok (.iload_n 3, 1) := by decide +kernel
theorem dX10_sum_8 : decode cX10_sum 8 = .ok (.invokestatic 222, 3) := by decide +kernel
theorem dX10_sum_11 : decode cX10_sum 11 = .ok (.ifCond .eq 11, 3) := by decide +kernel
theorem dX10_sum_14 : decode cX10_sum 14 = .ok (.iload 4, 2) := by decide +kernel
theorem dX10_sum_16 : decode cX10_sum 16 = .ok (.invokestatic 222, 3) := by decide +kernel
theorem dX10_sum_19 : decode cX10_sum 19 = .ok (.ifCond .ne 6, 3) := by decide +kernel
theorem dX10_sum_22 : decode cX10_sum 22 = .ok (.bipush (-101), 2) := by decide +kernel
theorem dX10_sum_24 : decode cX10_sum 24 = .ok (.ireturn, 1) := by decide +kernel
theorem dX10_sum_25 : decode cX10_sum 25 = .ok (.iload_n 1, 1) := by decide +kernel
theorem dX10_sum_26 : decode cX10_sum 26 = .ok (.iconst 0, 1) := by decide +kernel
theorem dX10_sum_27 : decode cX10_sum 27 = .ok (.iconst 1, 1) := by decide +kernel
theorem dX10_sum_28 : decode cX10_sum 28 = .ok (.invokestatic 131, 3) := by decide +kernel
theorem dX10_sum_31 : decode cX10_sum 31 = .ok (.ifCond .ne 6, 3) := by decide +kernel
theorem dX10_sum_34 : decode cX10_sum 34 = .ok (.bipush (-102), 2) := by decide +kernel
theorem dX10_sum_36 : decode cX10_sum 36 = .ok (.ireturn, 1) := by decide +kernel
theorem dX10_sum_37 : decode cX10_sum 37 = .ok (.aload_n 0, 1) := by decide +kernel
theorem dX10_sum_38 : decode cX10_sum 38 = .ok (.bipush 10, 2) := by decide +kernel
theorem dX10_sum_40 : decode cX10_sum 40 = .ok (.iload_n 2, 1) := by decide +kernel
theorem dX10_sum_41 : decode cX10_sum 41 = .ok (.invokevirtual 244, 3) := by decide +kernel
theorem dX10_sum_44 : decode cX10_sum 44 = .ok (.ifCond .eq 13, 3) := by decide +kernel
theorem dX10_sum_47 : decode cX10_sum 47 = .ok (.aload_n 0, 1) := by decide +kernel
theorem dX10_sum_48 : decode cX10_sum 48 = .ok (.bipush 14, 2) := by decide +kernel
theorem dX10_sum_50 : decode cX10_sum 50 = .ok (.iload_n 3, 1) := by decide +kernel
theorem dX10_sum_51 : decode cX10_sum 51 = .ok (.invokevirtual 244, 3) := by decide +kernel
theorem dX10_sum_54 : decode cX10_sum 54 = .ok (.ifCond .ne 5, 3) := by decide +kernel
theorem dX10_sum_57 : decode cX10_sum 57 = .ok (.iconst (-1), 1) := by decide +kernel
theorem dX10_sum_58 : decode cX10_sum 58 = .ok (.ireturn, 1) := by decide +kernel
theorem dX10_sum_59 : decode cX10_sum 59 = .ok (.iload_n 1, 1) := by decide +kernel
theorem dX10_sum_60 : decode cX10_sum 60 = .ok (.iconst 1, 1) := by decide +kernel
theorem dX10_sum_61 : decode cX10_sum 61 = .ok (.if_icmp .ne 9, 3) := by decide +kernel
theorem dX10_sum_64 : decode cX10_sum 64 = .ok (.aload_n 0, 1) := by decide +kernel
theorem dX10_sum_65 : decode cX10_sum 65 = .ok (.bipush 14, 2) := by decide +kernel
theorem dX10_sum_67 : decode cX10_sum 67 = .ok (.invokevirtual 247, 3) := by decide +kernel
theorem dX10_sum_70 : decode cX10_sum 70 = .ok (.aload_n 0, 1) := by decide +kernel
theorem dX10_sum_71 : decode cX10_sum 71 = .ok (.bipush 10, 2) := by decide +kernel
theorem dX10_sum_73 : decode cX10_sum 73 = .ok (.bipush 14, 2) := by decide +kernel
theorem dX10_sum_75 : decode cX10_sum 75 = .ok (.invokevirtual 174, 3) := by decide +kernel
theorem dX10_sum_78 : decode cX10_sum 78 = .ok (.aload_n 0, 1) := by decide +kernel
theorem dX10_sum_79 : decode cX10_sum 79 = .ok (.iload 4, 2) := by decide +kernel
theorem dX10_sum_81 : decode cX10_sum 81 = .ok (.bipush 10, 2) := by decide +kernel
theorem dX10_sum_83 : decode cX10_sum 83 = .ok (.invokevirtual 250, 3) := by decide +kernel
theorem dX10_sum_86 : decode cX10_sum 86 = .ok (.iconst 1, 1) := by decide +kernel
theorem dX10_sum_87 : decode cX10_sum 87 = .ok (.ireturn, 1) := by decide +kernel
theorem dX10_times_0 : decode cX10_times 0 = .ok (.iload_n 1, 1) := by decide +kernel
theorem dX10_times_1 : decode cX10_times 1 = .ok (.invokestatic 222, 3) := by decide +kernel
theorem dX10_times_4 : decode cX10_times 4 = .ok (.ifCond .eq 17, 3) := by decide +kernel
theorem dX10_times_7 : decode cX10_times 7 = .ok (.iload_n 2, 1) := by decide +kernel
theorem dX10_times_8 : decode cX10_times 8 = .ok (.invokestatic 222, 3) := by decide +kernel
theorem dX10_times_11 : decode cX10_times 11 = .ok (.ifCond .eq 10, 3) := by decide +kernel
theorem dX10_times_14 : decode cX10_times 14 = .ok (.iload_n 3, 1) := by decide +kernel
theorem dX10_times_15 : decode cX10_times 15 = .ok (.invokestatic 222, 3) := by decide +kernel
theorem dX10_times_18 : decode cX10_times 18 = .ok (.ifCond .ne 6, 3) := by decide +kernel
theorem dX10_times_21 : decode cX10_times 21 = .ok (.bipush (-101), 2) := by decide +kernel
theorem dX10_times_23 : decode cX10_times 23 = .ok (.ireturn, 1) := by decide +kernel
theorem dX10_times_24 : decode cX10_times 24 = .ok (.aload_n 0, 1) := by decide +kernel
theorem dX10_times_25 : decode cX10_times 25 = .ok (.getfield 17, 3) := by decide +kernel
theorem dX10_times_28 : decode cX10_times 28 = .ok (.iconst 1, 1) := by decide +kernel
theorem dX10_times_29 : decode cX10_times 29 = .ok (.if_icmp .ge 6, 3) := by decide +kernel
theorem dX10_times_32 : decode cX10_times 32 = .ok (.bipush (-103), 2) := by decide +kernel
theorem dX10_times_34 : decode cX10_times 34 = .ok (.ireturn, 1) := by decide +kernel
theorem dX10_times_35 : decode cX10_times 35 = .ok (.aload_n 0, 1) := by decide +kernel
theorem dX10_times_36 : decode cX10_times 36 = .ok (.bipush 10, 2) := by decide +kernel
theorem dX10_times_38 : decode cX10_times 38 = .ok (.iload_n 2, 1) := by decide +kernel
theorem dX10_times_39 : decode cX10_times 39 = .ok (.invokevirtual 244, 3) := by decide +kernel
theorem dX10_times_42 : decode cX10_times 42 = .ok (.ifCond .ne 5, 3) := by decide +kernel
theorem dX10_times_45 : decode cX10_times 45 = .ok (.iconst (-1), 1) := by decide +kernel
theorem dX10_times_46 : decode cX10_times 46 = .ok (.ireturn, 1) := by decide +kernel
theorem dX10_times_47 : decode cX10_times 47 = .ok (.aload_n 0, 1) := by decide +kernel
theorem dX10_times_48 : decode cX10_times 48 = .ok (.dup, 1) := by decide +kernel
theorem dX10_times_49 : decode cX10_times 49 = .ok (.getfield 17, 3) := by decide +kernel
theorem dX10_times_52 : decode cX10_times 52 = .ok (.iconst 1, 1) := by decide +kernel
theorem dX10_times_53 : decode cX10_times 53 = .ok (.isub, 1) := by decide +kernel
theorem dX10_times_54 : decode cX10_times 54 = .ok (.putfield 17, 3) := by decide +kernel
theorem dX10_times_57 : decode cX10_times 57 = .ok (.aload_n 0, 1) := by decide +kernel
theorem dX10_times_58 : decode cX10_times 58 = .ok (.bipush 20, 2) := by decide +kernel
theorem dX10_times_60 : decode cX10_times 60 = .ok (.iload_n 1, 1) := by decide +kernel
theorem dX10_times_61 : decode cX10_times 61 = .ok (.invokevirtual 225, 3) := by decide +kernel
theorem dX10_times_64 : decode cX10_times 64 = .ok (.aload_n 0, 1) := by decide +kernel
theorem dX10_times_65 : decode cX10_times 65 = .ok (.bipush 18, 2) := by decide +kernel
theorem dX10_times_67 : decode cX10_times 67 = .ok (.bipush 10, 2) := by decide +kernel
theorem dX10_times_69 : decode cX10_times 69 = .ok (.bipush 20, 2) := by decide +kernel
theorem dX10_times_71 : decode cX10_times 71 = .ok (.invokevirtual 253, 3) := by decide +kernel
theorem dX10_times_74 : decode cX10_times 74 = .ok (.aload_n 0, 1) := by decide +kernel
theorem dX10_times_75 : decode cX10_times 75 = .ok (.iload_n 3, 1) := by decide +kernel
theorem dX10_times_76 : decode cX10_times 76 = .ok (.bipush 18, 2) := by decide +kernel
theorem dX10_times_78 : decode cX10_times 78 = .ok (.invokevirtual 250, 3) := by decide +kernel
theorem dX10_times_81 : decode cX10_times 81 = .ok (.iconst 1, 1) := by decide +kernel
theorem dX10_times_82 : decode cX10_times 82 = .ok (.ireturn, 1) := by decide +kernel
theorem dX10_base_0 : decode cX10_base 0 = .ok (.iload_n 1, 1) := by decide +kernel
theorem dX10_base_1 : decode cX10_base 1 = .ok (.invokestatic 222, 3) := by decide +kernel
theorem dX10_base_4 : decode cX10_base 4 = .ok (.ifCond .eq 10, 3) := by decide +kernel
theorem dX10_base_7 : decode cX10_base 7 = .ok (.iload_n 2, 1) := by decide +kernel
theorem dX10_base_8 : decode cX10_base 8 = .ok (.invokestatic 222, 3) := by decide +kernel
theorem dX10_base_11 : decode cX10_base 11 = .ok (.ifCond .ne 6, 3) := by decide +kernel
theorem dX10_base_14 : decode cX10_base 14 = .ok (.bipush (-101), 2) := by decide +kernel
theorem dX10_base_16 : decode cX10_base 16 = .ok (.ireturn, 1) := by decide +kernel
theorem dX10_base_17 : decode cX10_base 17 = .ok (.aload_n 0, 1) := by decide +kernel
theorem dX10_base_18 : decode cX10_base 18 = .ok (.getfield 17, 3) := by decide +kernel
theorem dX10_base_21 : decode cX10_base 21 = .ok (.iconst 1, 1) := by decide +kernel
theorem dX10_base_22 : decode cX10_base 22 = .ok (.if_icmp .ge 6, 3) := by decide +kernel
theorem dX10_base_25 : decode cX10_base 25 = .ok (.bipush (-103), 2) := by decide +kernel
theorem dX10_base_27 : decode cX10_base 27 = .ok (.ireturn, 1) := by decide +kernel
theorem dX10_base_28 : decode cX10_base 28 = .ok (.aload_n 0, 1) := by decide +kernel
theorem dX10_base_29 : decode cX10_base 29 = .ok (.dup, 1) := by decide +kernel
theorem dX10_base_30 : decode cX10_base 30 = .ok (.getfield 17, 3) := by decide +kernel
theorem dX10_base_33 : decode cX10_base 33 = .ok (.iconst 1, 1) := by decide +kernel
theorem dX10_base_34 : decode cX10_base 34 = .ok (.isub, 1) := by decide +kernel
theorem dX10_base_35 : decode cX10_base 35 = .ok (.putfield 17, 3) := by decide +kernel
theorem dX10_base_38 : decode cX10_base 38 = .ok (.aload_n 0, 1) := by decide +kernel
theorem dX10_base_39 : decode cX10_base 39 = .ok (.bipush 20, 2) := by decide +kernel
theorem dX10_base_41 : decode cX10_base 41 = .ok (.iload_n 1, 1) := by decide +kernel
theorem dX10_base_42 : decode cX10_base 42 = .ok (.invokevirtual 225, 3) := by decide +kernel
theorem dX10_base_45 : decode cX10_base 45 = .ok (.aload_n 0, 1) := by decide +kernel
theorem dX10_base_46 : decode cX10_base 46 = .ok (.bipush 18, 2) := by decide +kernel
theorem dX10_base_48 : decode cX10_base 48 = .ok (.iconst 5, 1) := by decide +kernel
theorem dX10_base_49 : decode cX10_base 49 = .ok (.bipush 20, 2) := by decide +kernel
theorem dX10_base_51 : decode cX10_base 51 = .ok (.invokevirtual 253, 3) := by decide +kernel
theorem dX10_base_54 : decode cX10_base 54 = .ok (.aload_n 0, 1) := by decide +kernel
theorem dX10_base_55 : decode cX10_base 55 = .ok (.iload_n 2, 1) := by decide +kernel
theorem dX10_base_56 : decode cX10_base 56 = .ok (.bipush 18, 2) := by decide +kernel
theorem dX10_base_58 : decode cX10_base 58 = .ok (.invokevirtual 250, 3) := by decide +kernel
theorem dX10_base_61 : decode cX10_base 61 = .ok (.iconst 1, 1) := by decide +kernel
theorem dX10_base_62 : decode cX10_base 62 = .ok (.ireturn, 1) := by decide +kernel
theorem dX10_small_0 : decode cX10_small 0 = .ok (.iload_n 1, 1) := by decide +kernel
theorem dX10_small_1 : decode cX10_small 1 = .ok (.invokestatic 222, 3) := by decide +kernel
theorem dX10_small_4 : decode cX10_small 4 = .ok (.ifCond .ne 6, 3) := by decide +kernel
theorem dX10_small_7 : decode cX10_small 7 = .ok (.bipush (-101), 2) := by decide +kernel
theorem dX10_small_9 : decode cX10_small 9 = .ok (.ireturn, 1) := by decide +kernel
theorem dX10_small_10 : decode cX10_small 10 = .ok (.aload_n 0, 1) := by decide +kernel
theorem dX10_small_11 : decode cX10_small 11 = .ok (.bipush 10, 2) := by decide +kernel
theorem dX10_small_13 : decode cX10_small 13 = .ok (.iload_n 1, 1) := by decide +kernel
theorem dX10_small_14 : decode cX10_small 14 = .ok (.invokevirtual 244, 3) := by decide +kernel
theorem dX10_small_17 : decode cX10_small 17 = .ok (.ifCond .ne 5, 3) := by decide +kernel
theorem dX10_small_20 : decode cX10_small 20 = .ok (.iconst (-1), 1) := by decide +kernel
theorem dX10_small_21 : decode cX10_small 21 = .ok (.ireturn, 1) := by decide +kernel
theorem dX10_small_22 : decode cX10_small 22 = .ok (.iconst 0, 1) := by decide +kernel
theorem dX10_small_23 : decode cX10_small 23 = .ok (.istore_n 2, 1) := by decide +kernel
theorem dX10_small_24 : decode cX10_small 24 = .ok (.iload_n 2, 1) := by decide +kernel
theorem dX10_small_25 : decode cX10_small 25 = .ok (.iconst 4, 1) := by decide +kernel
theorem dX10_small_26 : decode cX10_small 26 = .ok (.if_icmp .ge 26, 3) := by decide +kernel
theorem dX10_small_29 : decode cX10_small 29 = .ok (.aload_n 0, 1) := by decide +kernel
theorem dX10_small_30 : decode cX10_small 30 = .ok (.bipush 10, 2) := by decide +kernel
theorem dX10_small_32 : decode cX10_small 32 = .ok (.invokevirtual 256, 3) := by decide +kernel
theorem dX10_small_35 : decode cX10_small 35 = .ok (.ifCond .ne 17, 3) := by decide +kernel
theorem dX10_small_38 : decode cX10_small 38 = .ok (.aload_n 0, 1) := by decide +kernel
theorem dX10_small_39 : decode cX10_small 39 = .ok (.bipush 10, 2) := by decide +kernel
theorem dX10_small_41 : decode cX10_small 41 = .ok (.bipush 10, 2) := by decide +kernel
theorem dX10_small_43 : decode cX10_small 43 = .ok (.invokevirtual 174, 3) := by decide +kernel
theorem dX10_small_46 : decode cX10_small 46 = .ok (.iinc 2 1, 3) := by decide +kernel
theorem dX10_small_49 : decode cX10_small 49 = .ok (.goto (-25), 3) := by decide +kernel
theorem dX10_small_52 : decode cX10_small 52 = .ok (.iload_n 2, 1) := by decide +kernel
theorem dX10_small_53 : decode cX10_small 53 = .ok (.ireturn, 1) := by decide +kernel
theorem dX10_other_0 : decode cX10_other 0 = .ok (.iload_n 1, 1) := by decide +kernel
theorem dX10_other_1 : decode cX10_other 1 = .ok (.invokestatic 222, 3) := by decide +kernel
theorem dX10_other_4 : decode cX10_other 4 = .ok (.ifCond .eq 10, 3) := by decide +kernel
theorem dX10_other_7 : decode cX10_other 7 = .ok (.iload_n 2, 1) := by decide +kernel
theorem dX10_other_8 : decode cX10_other 8 = .ok (.invokestatic 222, 3) := by decide +kernel
theorem dX10_other_11 : decode cX10_other 11 = .ok (.ifCond .ne 6, 3) := by decide +kernel
theorem dX10_other_14 : decode cX10_other 14 = .ok (.bipush (-101), 2) := by decide +kernel
theorem dX10_other_16 : decode cX10_other 16 = .ok (.ireturn, 1) := by decide +kernel
theorem dX10_other_17 : decode cX10_other 17 = .ok (.aload_n 0, 1) := by decide +kernel
theorem dX10_other_18 : decode cX10_other 18 = .ok (.bipush 10, 2) := by decide +kernel
theorem dX10_other_20 : decode cX10_other 20 = .ok (.iload_n 1, 1) := by decide +kernel
theorem dX10_other_21 : decode cX10_other 21 = .ok (.invokevirtual 244, 3) := by decide +kernel
theorem dX10_other_24 : decode cX10_other 24 = .ok (.ifCond .ne 5, 3) := by decide +kernel
theorem dX10_other_27 : decode cX10_other 27 = .ok (.iconst (-1), 1) := by decide +kernel
theorem dX10_other_28 : decode cX10_other 28 = .ok (.ireturn, 1) := by decide +kernel
theorem dX10_other_29 : decode cX10_other 29 = .ok (.aload_n 0, 1) := by decide +kernel
theorem dX10_other_30 : decode cX10_other 30 = .ok (.bipush 40, 2) := by decide +kernel
theorem dX10_other_32 : decode cX10_other 32 = .ok (.iconst 1, 1) := by decide +kernel
theorem dX10_other_33 : decode cX10_other 33 = .ok (.bipush 11, 2) := by decide +kernel
theorem dX10_other_35 : decode cX10_other 35 = .ok (.invokevirtual 98, 3) := by decide +kernel
theorem dX10_other_38 : decode cX10_other 38 = .ok (.aload_n 0, 1) := by decide +kernel
theorem dX10_other_39 : decode cX10_other 39 = .ok (.bipush 36, 2) := by decide +kernel
theorem dX10_other_41 : decode cX10_other 41 = .ok (.iconst 1, 1) := by decide +kernel
theorem dX10_other_42 : decode cX10_other 42 = .ok (.bipush 11, 2) := by decide +kernel
theorem dX10_other_44 : decode cX10_other 44 = .ok (.invokevirtual 110, 3) := by decide +kernel
theorem dX10_other_47 : decode cX10_other 47 = .ok (.aload_n 0, 1) := by decide +kernel
theorem dX10_other_48 : decode cX10_other 48 = .ok (.bipush 37, 2) := by decide +kernel
theorem dX10_other_50 : decode cX10_other 50 = .ok (.bipush 40, 2) := by decide +kernel
theorem dX10_other_52 : decode cX10_other 52 = .ok (.invokevirtual 103, 3) := by decide +kernel
theorem dX10_other_55 : decode cX10_other 55 = .ok (.aload_n 0, 1) := by decide +kernel
theorem dX10_other_56 : decode cX10_other 56 = .ok (.bipush 38, 2) := by decide +kernel
theorem dX10_other_58 : decode cX10_other 58 = .ok (.bipush 36, 2) := by decide +kernel
theorem dX10_other_60 : decode cX10_other 60 = .ok (.bipush 37, 2) := by decide +kernel
theorem dX10_other_62 : decode cX10_other 62 = .ok (.invokevirtual 107, 3) := by decide +kernel
theorem dX10_other_65 : decode cX10_other 65 = .ok (.aload_n 0, 1) := by decide +kernel
theorem dX10_other_66 : decode cX10_other 66 = .ok (.iload_n 2, 1) := by decide +kernel
theorem dX10_other_67 : decode cX10_other 67 = .ok (.bipush 38, 2) := by decide +kernel
theorem dX10_other_69 : decode cX10_other 69 = .ok (.invokevirtual 234, 3) := by decide +kernel
theorem dX10_other_72 : decode cX10_other 72 = .ok (.iconst 1, 1) := by decide +kernel
theorem dX10_other_73 : decode cX10_other 73 = .ok (.ireturn, 1) := by decide +kernel
theorem dX10_clamp_0 : decode cX10_clamp 0 = .ok (.aload_n 0, 1) := by decide +kernel
theorem dX10_clamp_1 : decode cX10_clamp 1 = .ok (.getfield 27, 3) := by decide +kernel
theorem dX10_clamp_4 : decode cX10_clamp 4 = .ok (.iload_n 1, 1) := by decide +kernel
theorem dX10_clamp_5 : decode cX10_clamp 5 = .ok (.dup2, 1) := by decide +kernel
theorem dX10_clamp_6 : decode cX10_clamp 6 = .ok (.laload, 1) := by decide +kernel
theorem dX10_clamp_7 : decode cX10_clamp 7 = .ok (.ldc2_w 259, 3) := by decide +kernel
theorem dX10_clamp_10 : decode cX10_clamp 10 = .ok (.land, 1) := by decide +kernel
theorem dX10_clamp_11 : decode cX10_clamp 11 = .ok (.lastore, 1) := by decide +kernel
theorem dX10_clamp_12 : decode cX10_clamp 12 = .ok (.aload_n 0, 1) := by decide +kernel
theorem dX10_clamp_13 : decode cX10_clamp 13 = .ok (.getfield 27, 3) := by decide +kernel
theorem dX10_clamp_16 : decode cX10_clamp 16 = .ok (.iload_n 1, 1) := by decide +kernel
theorem dX10_clamp_17 : decode cX10_clamp 17 = .ok (.iconst 3, 1) := by decide +kernel
theorem dX10_clamp_18 : decode cX10_clamp 18 = .ok (.iadd, 1) := by decide +kernel
theorem dX10_clamp_19 : decode cX10_clamp 19 = .ok (.aload_n 0, 1) := by decide +kernel
theorem dX10_clamp_20 : decode cX10_clamp 20 = .ok (.getfield 27, 3) := by decide +kernel
theorem dX10_clamp_23 : decode cX10_clamp 23 = .ok (.iload_n 1, 1) := by decide +kernel
theorem dX10_clamp_24 : decode cX10_clamp 24 = .ok (.iconst 3, 1) := by decide +kernel
theorem dX10_clamp_25 : decode cX10_clamp 25 = .ok (.iadd, 1) := by decide +kernel
theorem dX10_clamp_26 : decode cX10_clamp 26 = .ok (.laload, 1) := by decide +kernel
theorem dX10_clamp_27 : decode cX10_clamp 27 = .ok (.ldc2_w 70, 3) := by decide +kernel
theorem dX10_clamp_30 : decode cX10_clamp 30 = .ok (.land, 1) := by decide +kernel
theorem dX10_clamp_31 : decode cX10_clamp 31 = .ok (.ldc2_w 261, 3) := by decide +kernel
theorem dX10_clamp_34 : decode cX10_clamp 34 = .ok (.lor, 1) := by decide +kernel
theorem dX10_clamp_35 : decode cX10_clamp 35 = .ok (.lastore, 1) := by decide +kernel
theorem dX10_clamp_36 : decode cX10_clamp 36 = .ok (.return_, 1) := by decide +kernel
theorem dX10_swap_0 : decode cX10_swap 0 = .ok (.iconst 0, 1) := by decide +kernel
theorem dX10_swap_1 : decode cX10_swap 1 = .ok (.istore_n 3, 1) := by decide +kernel
theorem dX10_swap_2 : decode cX10_swap 2 = .ok (.iload_n 3, 1) := by decide +kernel
theorem dX10_swap_3 : decode cX10_swap 3 = .ok (.bipush 16, 2) := by decide +kernel
theorem dX10_swap_5 : decode cX10_swap 5 = .ok (.if_icmp .ge 57, 3) := by decide +kernel
theorem dX10_swap_8 : decode cX10_swap 8 = .ok (.aload_n 0, 1) := by decide +kernel
theorem dX10_swap_9 : decode cX10_swap 9 = .ok (.getfield 21, 3) := by decide +kernel
theorem dX10_swap_12 : decode cX10_swap 12 = .ok (.bipush 16, 2) := by decide +kernel
theorem dX10_swap_14 : decode cX10_swap 14 = .ok (.iload_n 1, 1) := by decide +kernel
theorem dX10_swap_15 : decode cX10_swap 15 = .ok (.imul, 1) := by decide +kernel
theorem dX10_swap_16 : decode cX10_swap 16 = .ok (.iload_n 3, 1) := by decide +kernel
theorem dX10_swap_17 : decode cX10_swap 17 = .ok (.iadd, 1) := by decide +kernel
theorem dX10_swap_18 : decode cX10_swap 18 = .ok (.laload, 1) := by decide +kernel
theorem dX10_swap_19 : decode cX10_swap 19 = .ok (.lstore 4, 2) := by decide +kernel
theorem dX10_swap_21 : decode cX10_swap 21 = .ok (.aload_n 0, 1) := by decide +kernel
theorem dX10_swap_22 : decode cX10_swap 22 = .ok (.getfield 21, 3) := by decide +kernel
theorem dX10_swap_25 : decode cX10_swap 25 = .ok (.bipush 16, 2) := by decide +kernel
theorem dX10_swap_27 : decode cX10_swap 27 = .ok (.iload_n 1, 1) := by decide +kernel
theorem dX10_swap_28 : decode cX10_swap 28 = .ok (.imul, 1) := by decide +kernel
theorem dX10_swap_29 : decode cX10_swap 29 = .ok (.iload_n 3, 1) := by decide +kernel
theorem dX10_swap_30 : decode cX10_swap 30 = .ok (.iadd, 1) := by decide +kernel
theorem dX10_swap_31 : decode cX10_swap 31 = .ok (.aload_n 0, 1) := by decide +kernel
theorem dX10_swap_32 : decode cX10_swap 32 = .ok (.getfield 21, 3) := by decide +kernel
theorem dX10_swap_35 : decode cX10_swap 35 = .ok (.bipush 16, 2) := by decide +kernel
theorem dX10_swap_37 : decode cX10_swap 37 = .ok (.iload_n 2, 1) := by decide +kernel
theorem dX10_swap_38 : decode cX10_swap 38 = .ok (.imul, 1) := by decide +kernel
theorem dX10_swap_39 : decode cX10_swap 39 = .ok (.iload_n 3, 1) := by decide +kernel
theorem dX10_swap_40 : decode cX10_swap 40 = .ok (.iadd, 1) := by decide +kernel
theorem dX10_swap_41 : decode cX10_swap 41 = .ok (.laload, 1) := by decide +kernel
theorem dX10_swap_42 : decode cX10_swap 42 = .ok (.lastore, 1) := by decide +kernel
theorem dX10_swap_43 : decode cX10_swap 43 = .ok (.aload_n 0, 1) := by decide +kernel
theorem dX10_swap_44 : decode cX10_swap 44 = .ok (.getfield 21, 3) := by decide +kernel
theorem dX10_swap_47 : decode cX10_swap 47 = .ok (.bipush 16, 2) := by decide +kernel
theorem dX10_swap_49 : decode cX10_swap 49 = .ok (.iload_n 2, 1) := by decide +kernel
theorem dX10_swap_50 : decode cX10_swap 50 = .ok (.imul, 1) := by decide +kernel
theorem dX10_swap_51 : decode cX10_swap 51 = .ok (.iload_n 3, 1) := by decide +kernel
theorem dX10_swap_52 : decode cX10_swap 52 = .ok (.iadd, 1) := by decide +kernel
theorem dX10_swap_53 : decode cX10_swap 53 = .ok (.lload 4, 2) := by decide +kernel
theorem dX10_swap_55 : decode cX10_swap 55 = .ok (.lastore, 1) := by decide +kernel
theorem dX10_swap_56 : decode cX10_swap 56 = .ok (.iinc 3 1, 3) := by decide +kernel
theorem dX10_swap_59 : decode cX10_swap 59 = .ok (.goto (-57), 3) := by decide +kernel
theorem dX10_swap_62 : decode cX10_swap 62 = .ok (.return_, 1) := by decide +kernel
theorem dX10_share_0 : decode cX10_share 0 = .ok (.iload_n 1, 1) := by decide +kernel
theorem dX10_share_1 : decode cX10_share 1 = .ok (.invokestatic 222, 3) := by decide +kernel
theorem dX10_share_4 : decode cX10_share 4 = .ok (.ifCond .eq 17, 3) := by decide +kernel
theorem dX10_share_7 : decode cX10_share 7 = .ok (.iload_n 2, 1) := by decide +kernel
theorem dX10_share_8 : decode cX10_share 8 = .ok (.invokestatic 222, 3) := by decide +kernel
theorem dX10_share_11 : decode cX10_share 11 = .ok (.ifCond .eq 10, 3) := by decide +kernel
theorem dX10_share_14 : decode cX10_share 14 = .ok (.iload_n 3, 1) := by decide +kernel
theorem dX10_share_15 : decode cX10_share 15 = .ok (.invokestatic 222, 3) := by decide +kernel
theorem dX10_share_18 : decode cX10_share 18 = .ok (.ifCond .ne 6, 3) := by decide +kernel
theorem dX10_share_21 : decode cX10_share 21 = .ok (.bipush (-101), 2) := by decide +kernel
theorem dX10_share_23 : decode cX10_share 23 = .ok (.ireturn, 1) := by decide +kernel
theorem dX10_share_24 : decode cX10_share 24 = .ok (.aload_n 0, 1) := by decide +kernel
theorem dX10_share_25 : decode cX10_share 25 = .ok (.getfield 17, 3) := by decide +kernel
theorem dX10_share_28 : decode cX10_share 28 = .ok (.iconst 1, 1) := by decide +kernel
theorem dX10_share_29 : decode cX10_share 29 = .ok (.if_icmp .ge 6, 3) := by decide +kernel
theorem dX10_share_32 : decode cX10_share 32 = .ok (.bipush (-103), 2) := by decide +kernel
theorem dX10_share_34 : decode cX10_share 34 = .ok (.ireturn, 1) := by decide +kernel
theorem dX10_share_35 : decode cX10_share 35 = .ok (.aload_n 0, 1) := by decide +kernel
theorem dX10_share_36 : decode cX10_share 36 = .ok (.dup, 1) := by decide +kernel
theorem dX10_share_37 : decode cX10_share 37 = .ok (.getfield 17, 3) := by decide +kernel
theorem dX10_share_40 : decode cX10_share 40 = .ok (.iconst 1, 1) := by decide +kernel
theorem dX10_share_41 : decode cX10_share 41 = .ok (.isub, 1) := by decide +kernel
theorem dX10_share_42 : decode cX10_share 42 = .ok (.putfield 17, 3) := by decide +kernel
theorem dX10_share_45 : decode cX10_share 45 = .ok (.aload_n 0, 1) := by decide +kernel
theorem dX10_share_46 : decode cX10_share 46 = .ok (.bipush 20, 2) := by decide +kernel
theorem dX10_share_48 : decode cX10_share 48 = .ok (.iload_n 1, 1) := by decide +kernel
theorem dX10_share_49 : decode cX10_share 49 = .ok (.invokevirtual 225, 3) := by decide +kernel
theorem dX10_share_52 : decode cX10_share 52 = .ok (.aload_n 0, 1) := by decide +kernel
theorem dX10_share_53 : decode cX10_share 53 = .ok (.bipush 20, 2) := by decide +kernel
theorem dX10_share_55 : decode cX10_share 55 = .ok (.invokevirtual 263, 3) := by decide +kernel
theorem dX10_share_58 : decode cX10_share 58 = .ok (.aload_n 0, 1) := by decide +kernel
theorem dX10_share_59 : decode cX10_share 59 = .ok (.bipush 40, 2) := by decide +kernel
theorem dX10_share_61 : decode cX10_share 61 = .ok (.iload_n 2, 1) := by decide +kernel
theorem dX10_share_62 : decode cX10_share 62 = .ok (.invokevirtual 231, 3) := by decide +kernel
theorem dX10_share_65 : decode cX10_share 65 = .ok (.aload_n 0, 1) := by decide +kernel
theorem dX10_share_66 : decode cX10_share 66 = .ok (.bipush 36, 2) := by decide +kernel
theorem dX10_share_68 : decode cX10_share 68 = .ok (.lconst 1, 1) := by decide +kernel
theorem dX10_share_69 : decode cX10_share 69 = .ok (.invokevirtual 82, 3) := by decide +kernel
theorem dX10_share_72 : decode cX10_share 72 = .ok (.aload_n 0, 1) := by decide +kernel
theorem dX10_share_73 : decode cX10_share 73 = .ok (.bipush 37, 2) := by decide +kernel
theorem dX10_share_75 : decode cX10_share 75 = .ok (.lconst 0, 1) := by decide +kernel
theorem dX10_share_76 : decode cX10_share 76 = .ok (.invokevirtual 82, 3) := by decide +kernel
theorem dX10_share_79 : decode cX10_share 79 = .ok (.aload_n 0, 1) := by decide +kernel
theorem dX10_share_80 : decode cX10_share 80 = .ok (.bipush 38, 2) := by decide +kernel
theorem dX10_share_82 : decode cX10_share 82 = .ok (.bipush 40, 2) := by decide +kernel
theorem dX10_share_84 : decode cX10_share 84 = .ok (.invokevirtual 145, 3) := by decide +kernel
theorem dX10_share_87 : decode cX10_share 87 = .ok (.aload_n 0, 1) := by decide +kernel
theorem dX10_share_88 : decode cX10_share 88 = .ok (.bipush 39, 2) := by decide +kernel
theorem dX10_share_90 : decode cX10_share 90 = .ok (.lconst 1, 1) := by decide +kernel
theorem dX10_share_91 : decode cX10_share 91 = .ok (.invokevirtual 82, 3) := by decide +kernel
theorem dX10_share_94 : decode cX10_share 94 = .ok (.aload_n 0, 1) := by decide +kernel
theorem dX10_share_95 : decode cX10_share 95 = .ok (.bipush 44, 2) := by decide +kernel
theorem dX10_share_97 : decode cX10_share 97 = .ok (.ldc2_w 96, 3) := by decide +kernel
theorem dX10_share_100 : decode cX10_share 100 = .ok (.invokevirtual 82, 3) := by decide +kernel
theorem dX10_share_103 : decode cX10_share 103 = .ok (.sipush 254, 3) := by decide +kernel
theorem dX10_share_106 : decode cX10_share 106 = .ok (.istore 4, 2) := by decide +kernel
theorem dX10_share_108 : decode cX10_share 108 = .ok (.iload 4, 2) := by decide +kernel
theorem dX10_share_110 : decode cX10_share 110 = .ok (.ifCond .lt 250, 3) := by decide +kernel
theorem dX10_share_113 : decode cX10_share 113 = .ok (.aload_n 0, 1) := by decide +kernel
theorem dX10_share_114 : decode cX10_share 114 = .ok (.bipush 20, 2) := by decide +kernel
theorem dX10_share_116 : decode cX10_share 116 = .ok (.iload 4, 2) := by decide +kernel
theorem dX10_share_118 : decode cX10_share 118 = .ok (.invokevirtual 148, 3) := by decide +kernel
theorem dX10_share_121 : decode cX10_share 121 = .ok (.iconst 1, 1) := by decide +kernel
theorem dX10_share_122 : decode cX10_share 122 = .ok (.if_icmp .ne 7, 3) := by decide +kernel
theorem dX10_share_125 : decode cX10_share 125 = .ok (.iconst 1, 1) := by decide +kernel
theorem dX10_share_126 : decode cX10_share 126 = .ok (.goto 4, 3) := by decide +kernel
theorem dX10_share_129 : decode cX10_share 129 = .ok (.iconst 0, 1) := by decide +kernel
theorem dX10_share_130 : decode cX10_share 130 = .ok (.istore 5, 2) := by decide +kernel
theorem dX10_share_132 : decode cX10_share 132 = .ok (.iload 5, 2) := by decide +kernel
theorem dX10_share_134 : decode cX10_share 134 = .ok (.ifCond .eq 19, 3) := by decide +kernel
theorem dX10_share_137 : decode cX10_share 137 = .ok (.aload_n 0, 1) := by decide +kernel
theorem dX10_share_138 : decode cX10_share 138 = .ok (.bipush 36, 2) := by decide +kernel
theorem dX10_share_140 : decode cX10_share 140 = .ok (.bipush 38, 2) := by decide +kernel
theorem dX10_share_142 : decode cX10_share 142 = .ok (.invokevirtual 266, 3) := by decide +kernel
theorem dX10_share_145 : decode cX10_share 145 = .ok (.aload_n 0, 1) := by decide +kernel
theorem dX10_share_146 : decode cX10_share 146 = .ok (.bipush 37, 2) := by decide +kernel
theorem dX10_share_148 : decode cX10_share 148 = .ok (.bipush 39, 2) := by decide +kernel
theorem dX10_share_150 : decode cX10_share 150 = .ok (.invokevirtual 266, 3) := by decide +kernel
theorem dX10_share_153 : decode cX10_share 153 = .ok (.aload_n 0, 1) := by decide +kernel
theorem dX10_share_154 : decode cX10_share 154 = .ok (.bipush 26, 2) := by decide +kernel
theorem dX10_share_156 : decode cX10_share 156 = .ok (.bipush 36, 2) := by decide +kernel
theorem dX10_share_158 : decode cX10_share 158 = .ok (.bipush 37, 2) := by decide +kernel
theorem dX10_share_160 : decode cX10_share 160 = .ok (.invokevirtual 110, 3) := by decide +kernel
theorem dX10_share_163 : decode cX10_share 163 = .ok (.aload_n 0, 1) := by decide +kernel
theorem dX10_share_164 : decode cX10_share 164 = .ok (.bipush 27, 2) := by decide +kernel
theorem dX10_share_166 : decode cX10_share 166 = .ok (.bipush 36, 2) := by decide +kernel
theorem dX10_share_168 : decode cX10_share 168 = .ok (.bipush 37, 2) := by decide +kernel
theorem dX10_share_170 : decode cX10_share 170 = .ok (.invokevirtual 98, 3) := by decide +kernel
theorem dX10_share_173 : decode cX10_share 173 = .ok (.aload_n 0, 1) := by decide +kernel
theorem dX10_share_174 : decode cX10_share 174 = .ok (.bipush 28, 2) := by decide +kernel
theorem dX10_share_176 : decode cX10_share 176 = .ok (.bipush 26, 2) := by decide +kernel
theorem dX10_share_178 : decode cX10_share 178 = .ok (.bipush 26, 2) := by decide +kernel
theorem dX10_share_180 : decode cX10_share 180 = .ok (.invokevirtual 107, 3) := by decide +kernel
theorem dX10_share_183 : decode cX10_share 183 = .ok (.aload_n 0, 1) := by decide +kernel
theorem dX10_share_184 : decode cX10_share 184 = .ok (.bipush 29, 2) := by decide +kernel
theorem dX10_share_186 : decode cX10_share 186 = .ok (.bipush 27, 2) := by decide +kernel
theorem dX10_share_188 : decode cX10_share 188 = .ok (.bipush 27, 2) := by decide +kernel
theorem dX10_share_190 : decode cX10_share 190 = .ok (.invokevirtual 107, 3) := by decide +kernel
theorem dX10_share_193 : decode cX10_share 193 = .ok (.aload_n 0, 1) := by decide +kernel
theorem dX10_share_194 : decode cX10_share 194 = .ok (.bipush 30, 2) := by decide +kernel
theorem dX10_share_196 : decode cX10_share 196 = .ok (.bipush 28, 2) := by decide +kernel
theorem dX10_share_198 : decode cX10_share 198 = .ok (.bipush 29, 2) := by decide +kernel
theorem dX10_share_200 : decode cX10_share 200 = .ok (.invokevirtual 98, 3) := by decide +kernel
theorem dX10_share_203 : decode cX10_share 203 = .ok (.aload_n 0, 1) := by decide +kernel
theorem dX10_share_204 : decode cX10_share 204 = .ok (.bipush 31, 2) := by decide +kernel
theorem dX10_share_206 : decode cX10_share 206 = .ok (.bipush 38, 2) := by decide +kernel
theorem dX10_share_208 : decode cX10_share 208 = .ok (.bipush 39, 2) := by decide +kernel
theorem dX10_share_210 : decode cX10_share 210 = .ok (.invokevirtual 110, 3) := by decide +kernel
theorem dX10_share_213 : decode cX10_share 213 = .ok (.aload_n 0, 1) := by decide +kernel
theorem dX10_share_214 : decode cX10_share 214 = .ok (.bipush 32, 2) := by decide +kernel
theorem dX10_share_216 : decode cX10_share 216 = .ok (.bipush 38, 2) := by decide +kernel
theorem dX10_share_218 : decode cX10_share 218 = .ok (.bipush 39, 2) := by decide +kernel
theorem dX10_share_220 : decode cX10_share 220 = .ok (.invokevirtual 98, 3) := by decide +kernel
theorem dX10_share_223 : decode cX10_share 223 = .ok (.aload_n 0, 1) := by decide +kernel
theorem dX10_share_224 : decode cX10_share 224 = .ok (.bipush 32, 2) := by decide +kernel
theorem dX10_share_226 : decode cX10_share 226 = .ok (.bipush 32, 2) := by decide +kernel
theorem dX10_share_228 : decode cX10_share 228 = .ok (.bipush 26, 2) := by decide +kernel
theorem dX10_share_230 : decode cX10_share 230 = .ok (.invokevirtual 107, 3) := by decide +kernel
theorem dX10_share_233 : decode cX10_share 233 = .ok (.aload_n 0, 1) := by decide +kernel
theorem dX10_share_234 : decode cX10_share 234 = .ok (.bipush 31, 2) := by decide +kernel
theorem dX10_share_236 : decode cX10_share 236 = .ok (.bipush 31, 2) := by decide +kernel
theorem dX10_share_238 : decode cX10_share 238 = .ok (.bipush 27, 2) := by decide +kernel
theorem dX10_share_240 : decode cX10_share 240 = .ok (.invokevirtual 107, 3) := by decide +kernel
theorem dX10_share_243 : decode cX10_share 243 = .ok (.aload_n 0, 1) := by decide +kernel
theorem dX10_share_244 : decode cX10_share 244 = .ok (.bipush 33, 2) := by decide +kernel
theorem dX10_share_246 : decode cX10_share 246 = .ok (.bipush 32, 2) := by decide +kernel
theorem dX10_share_248 : decode cX10_share 248 = .ok (.bipush 31, 2) := by decide +kernel
theorem dX10_share_250 : decode cX10_share 250 = .ok (.invokevirtual 110, 3) := by decide +kernel
theorem dX10_share_253 : decode cX10_share 253 = .ok (.aload_n 0, 1) := by decide +kernel
theorem dX10_share_254 : decode cX10_share 254 = .ok (.bipush 38, 2) := by decide +kernel
theorem dX10_share_256 : decode cX10_share 256 = .ok (.bipush 33, 2) := by decide +kernel
theorem dX10_share_258 : decode cX10_share 258 = .ok (.bipush 33, 2) := by decide +kernel
theorem dX10_share_260 : decode cX10_share 260 = .ok (.invokevirtual 107, 3) := by decide +kernel
theorem dX10_share_263 : decode cX10_share 263 = .ok (.aload_n 0, 1) := by decide +kernel
theorem dX10_share_264 : decode cX10_share 264 = .ok (.bipush 33, 2) := by decide +kernel
theorem dX10_share_266 : decode cX10_share 266 = .ok (.bipush 32, 2) := by decide +kernel
theorem dX10_share_268 : decode cX10_share 268 = .ok (.bipush 31, 2) := by decide +kernel
theorem dX10_share_270 : decode cX10_share 270 = .ok (.invokevirtual 98, 3) := by decide +kernel
theorem dX10_share_273 : decode cX10_share 273 = .ok (.aload_n 0, 1) := by decide +kernel
theorem dX10_share_274 : decode cX10_share 274 = .ok (.bipush 33, 2) := by decide +kernel
theorem dX10_share_276 : decode cX10_share 276 = .ok (.bipush 33, 2) := by decide +kernel
theorem dX10_share_278 : decode cX10_share 278 = .ok (.bipush 33, 2) := by decide +kernel
theorem dX10_share_280 : decode cX10_share 280 = .ok (.invokevirtual 107, 3) := by decide +kernel
theorem dX10_share_283 : decode cX10_share 283 = .ok (.aload_n 0, 1) := by decide +kernel
theorem dX10_share_284 : decode cX10_share 284 = .ok (.bipush 39, 2) := by decide +kernel
theorem dX10_share_286 : decode cX10_share 286 = .ok (.bipush 40, 2) := by decide +kernel
theorem dX10_share_288 : decode cX10_share 288 = .ok (.bipush 33, 2) := by decide +kernel
theorem dX10_share_290 : decode cX10_share 290 = .ok (.invokevirtual 107, 3) := by decide +kernel
theorem dX10_share_293 : decode cX10_share 293 = .ok (.aload_n 0, 1) := by decide +kernel
theorem dX10_share_294 : decode cX10_share 294 = .ok (.bipush 36, 2) := by decide +kernel
theorem dX10_share_296 : decode cX10_share 296 = .ok (.bipush 28, 2) := by decide +kernel
theorem dX10_share_298 : decode cX10_share 298 = .ok (.bipush 29, 2) := by decide +kernel
theorem dX10_share_300 : decode cX10_share 300 = .ok (.invokevirtual 107, 3) := by decide +kernel
theorem dX10_share_303 : decode cX10_share 303 = .ok (.aload_n 0, 1) := by decide +kernel
theorem dX10_share_304 : decode cX10_share 304 = .ok (.bipush 33, 2) := by decide +kernel
theorem dX10_share_306 : decode cX10_share 306 = .ok (.bipush 44, 2) := by decide +kernel
theorem dX10_share_308 : decode cX10_share 308 = .ok (.bipush 30, 2) := by decide +kernel
theorem dX10_share_310 : decode cX10_share 310 = .ok (.invokevirtual 107, 3) := by decide +kernel
theorem dX10_share_313 : decode cX10_share 313 = .ok (.aload_n 0, 1) := by decide +kernel
theorem dX10_share_314 : decode cX10_share 314 = .ok (.bipush 33, 2) := by decide +kernel
theorem dX10_share_316 : decode cX10_share 316 = .ok (.bipush 33, 2) := by decide +kernel
theorem dX10_share_318 : decode cX10_share 318 = .ok (.bipush 28, 2) := by decide +kernel
theorem dX10_share_320 : decode cX10_share 320 = .ok (.invokevirtual 110, 3) := by decide +kernel
theorem dX10_share_323 : decode cX10_share 323 = .ok (.aload_n 0, 1) := by decide +kernel
theorem dX10_share_324 : decode cX10_share 324 = .ok (.bipush 37, 2) := by decide +kernel
theorem dX10_share_326 : decode cX10_share 326 = .ok (.bipush 30, 2) := by decide +kernel
theorem dX10_share_328 : decode cX10_share 328 = .ok (.bipush 33, 2) := by decide +kernel
theorem dX10_share_330 : decode cX10_share 330 = .ok (.invokevirtual 107, 3) := by decide +kernel
theorem dX10_share_333 : decode cX10_share 333 = .ok (.iload 5, 2) := by decide +kernel
theorem dX10_share_335 : decode cX10_share 335 = .ok (.ifCond .eq 19, 3) := by decide +kernel
theorem dX10_share_338 : decode cX10_share 338 = .ok (.aload_n 0, 1) := by decide +kernel
theorem dX10_share_339 : decode cX10_share 339 = .ok (.bipush 36, 2) := by decide +kernel
theorem dX10_share_341 : decode cX10_share 341 = .ok (.bipush 38, 2) := by decide +kernel
theorem dX10_share_343 : decode cX10_share 343 = .ok (.invokevirtual 266, 3) := by decide +kernel
theorem dX10_share_346 : decode cX10_share 346 = .ok (.aload_n 0, 1) := by decide +kernel
theorem dX10_share_347 : decode cX10_share 347 = .ok (.bipush 37, 2) := by decide +kernel
theorem dX10_share_349 : decode cX10_share 349 = .ok (.bipush 39, 2) := by decide +kernel
theorem dX10_share_351 : decode cX10_share 351 = .ok (.invokevirtual 266, 3) := by decide +kernel
theorem dX10_share_354 : decode cX10_share 354 = .ok (.iinc 4 (-1), 3) := by decide +kernel
theorem dX10_share_357 : decode cX10_share 357 = .ok (.goto (-249), 3) := by decide +kernel
theorem dX10_share_360 : decode cX10_share 360 = .ok (.aload_n 0, 1) := by decide +kernel
theorem dX10_share_361 : decode cX10_share 361 = .ok (.bipush 37, 2) := by decide +kernel
theorem dX10_share_363 : decode cX10_share 363 = .ok (.bipush 37, 2) := by decide +kernel
theorem dX10_share_365 : decode cX10_share 365 = .ok (.invokevirtual 103, 3) := by decide +kernel
theorem dX10_share_368 : decode cX10_share 368 = .ok (.aload_n 0, 1) := by decide +kernel
theorem dX10_share_369 : decode cX10_share 369 = .ok (.bipush 36, 2) := by decide +kernel
theorem dX10_share_371 : decode cX10_share 371 = .ok (.bipush 36, 2) := by decide +kernel
theorem dX10_share_373 : decode cX10_share 373 = .ok (.bipush 37, 2) := by decide +kernel
theorem dX10_share_375 : decode cX10_share 375 = .ok (.invokevirtual 107, 3) := by decide +kernel
theorem dX10_share_378 : decode cX10_share 378 = .ok (.aload_n 0, 1) := by decide +kernel
theorem dX10_share_379 : decode cX10_share 379 = .ok (.iload_n 3, 1) := by decide +kernel
theorem dX10_share_380 : decode cX10_share 380 = .ok (.bipush 36, 2) := by decide +kernel
theorem dX10_share_382 : decode cX10_share 382 = .ok (.invokevirtual 234, 3) := by decide +kernel
theorem dX10_share_385 : decode cX10_share 385 = .ok (.aload_n 0, 1) := by decide +kernel
theorem dX10_share_386 : decode cX10_share 386 = .ok (.bipush 36, 2) := by decide +kernel
theorem dX10_share_388 : decode cX10_share 388 = .ok (.iconst 0, 1) := by decide +kernel
theorem dX10_share_389 : decode cX10_share 389 = .ok (.invokevirtual 168, 3) := by decide +kernel
theorem dX10_share_392 : decode cX10_share 392 = .ok (.ifCond .eq 7, 3) := by decide +kernel
theorem dX10_share_395 : decode cX10_share 395 = .ok (.iconst 0, 1) := by decide +kernel
theorem dX10_share_396 : decode cX10_share 396 = .ok (.goto 4, 3) := by decide +kernel
theorem dX10_share_399 : decode cX10_share 399 = .ok (.iconst 1, 1) := by decide +kernel
theorem dX10_share_400 : decode cX10_share 400 = .ok (.ireturn, 1) := by decide +kernel
theorem dX10_digest_0 : decode cX10_digest 0 = .ok (.iload_n 1, 1) := by decide +kernel
theorem dX10_digest_1 : decode cX10_digest 1 = .ok (.invokestatic 222, 3) := by decide +kernel
theorem dX10_digest_4 : decode cX10_digest 4 = .ok (.ifCond .eq 12, 3) := by decide +kernel
theorem dX10_digest_7 : decode cX10_digest 7 = .ok (.iload_n 1, 1) := by decide +kernel
theorem dX10_digest_8 : decode cX10_digest 8 = .ok (.iconst 1, 1) := by decide +kernel
theorem dX10_digest_9 : decode cX10_digest 9 = .ok (.iadd, 1) := by decide +kernel
theorem dX10_digest_10 : decode cX10_digest 10 = .ok (.invokestatic 222, 3) := by decide +kernel
theorem dX10_digest_13 : decode cX10_digest 13 = .ok (.ifCond .ne 6, 3) := by decide +kernel
theorem dX10_digest_16 : decode cX10_digest 16 = .ok (.bipush (-101), 2) := by decide +kernel
theorem dX10_digest_18 : decode cX10_digest 18 = .ok (.ireturn, 1) := by decide +kernel
theorem dX10_digest_19 : decode cX10_digest 19 = .ok (.aload_n 0, 1) := by decide +kernel
theorem dX10_digest_20 : decode cX10_digest 20 = .ok (.invokevirtual 269, 3) := by decide +kernel
theorem dX10_digest_23 : decode cX10_digest 23 = .ok (.aload_n 0, 1) := by decide +kernel
theorem dX10_digest_24 : decode cX10_digest 24 = .ok (.invokevirtual 272, 3) := by decide +kernel
theorem dX10_digest_27 : decode cX10_digest 27 = .ok (.aload_n 0, 1) := by decide +kernel
theorem dX10_digest_28 : decode cX10_digest 28 = .ok (.iconst 4, 1) := by decide +kernel
theorem dX10_digest_29 : decode cX10_digest 29 = .ok (.iconst 0, 1) := by decide +kernel
theorem dX10_digest_30 : decode cX10_digest 30 = .ok (.invokevirtual 275, 3) := by decide +kernel
theorem dX10_digest_33 : decode cX10_digest 33 = .ok (.aload_n 0, 1) := by decide +kernel
theorem dX10_digest_34 : decode cX10_digest 34 = .ok (.bipush 8, 2) := by decide +kernel
theorem dX10_digest_36 : decode cX10_digest 36 = .ok (.bipush 32, 2) := by decide +kernel
theorem dX10_digest_38 : decode cX10_digest 38 = .ok (.invokevirtual 275, 3) := by decide +kernel
theorem dX10_digest_41 : decode cX10_digest 41 = .ok (.aload_n 0, 1) := by decide +kernel
theorem dX10_digest_42 : decode cX10_digest 42 = .ok (.iload_n 1, 1) := by decide +kernel
theorem dX10_digest_43 : decode cX10_digest 43 = .ok (.iconst 4, 1) := by decide +kernel
theorem dX10_digest_44 : decode cX10_digest 44 = .ok (.invokevirtual 228, 3) := by decide +kernel
theorem dX10_digest_47 : decode cX10_digest 47 = .ok (.aload_n 0, 1) := by decide +kernel
theorem dX10_digest_48 : decode cX10_digest 48 = .ok (.iload_n 1, 1) := by decide +kernel
theorem dX10_digest_49 : decode cX10_digest 49 = .ok (.iconst 1, 1) := by decide +kernel
theorem dX10_digest_50 : decode cX10_digest 50 = .ok (.iadd, 1) := by decide +kernel
theorem dX10_digest_51 : decode cX10_digest 51 = .ok (.bipush 8, 2) := by decide +kernel
theorem dX10_digest_53 : decode cX10_digest 53 = .ok (.invokevirtual 228, 3) := by decide +kernel
theorem dX10_digest_56 : decode cX10_digest 56 = .ok (.iconst 1, 1) := by decide +kernel
theorem dX10_digest_57 : decode cX10_digest 57 = .ok (.ireturn, 1) := by decide +kernel
theorem dX10_open__0 : decode cX10_open_ 0 = .ok (.aload_n 0, 1) := by decide +kernel
theorem dX10_open__1 : decode cX10_open_ 1 = .ok (.iconst 4, 1) := by decide +kernel
theorem dX10_open__2 : decode cX10_open_ 2 = .ok (.iload_n 1, 1) := by decide +kernel
theorem dX10_open__3 : decode cX10_open_ 3 = .ok (.invokevirtual 225, 3) := by decide +kernel
theorem dX10_open__6 : decode cX10_open_ 6 = .ok (.aload_n 0, 1) := by decide +kernel
theorem dX10_open__7 : decode cX10_open_ 7 = .ok (.iconst 4, 1) := by decide +kernel
theorem dX10_open__8 : decode cX10_open_ 8 = .ok (.invokevirtual 278, 3) := by decide +kernel
theorem dX10_open__11 : decode cX10_open_ 11 = .ok (.aload_n 0, 1) := by decide +kernel
theorem dX10_open__12 : decode cX10_open_ 12 = .ok (.invokevirtual 272, 3) := by decide +kernel
theorem dX10_open__15 : decode cX10_open_ 15 = .ok (.aload_n 0, 1) := by decide +kernel
theorem dX10_open__16 : decode cX10_open_ 16 = .ok (.bipush 20, 2) := by decide +kernel
theorem dX10_open__18 : decode cX10_open_ 18 = .ok (.iconst 0, 1) := by decide +kernel
theorem dX10_open__19 : decode cX10_open_ 19 = .ok (.invokevirtual 275, 3) := by decide +kernel
theorem dX10_open__22 : decode cX10_open_ 22 = .ok (.aload_n 0, 1) := by decide +kernel
theorem dX10_open__23 : decode cX10_open_ 23 = .ok (.bipush 20, 2) := by decide +kernel
theorem dX10_open__25 : decode cX10_open_ 25 = .ok (.invokevirtual 263, 3) := by decide +kernel
theorem dX10_open__28 : decode cX10_open_ 28 = .ok (.aload_n 0, 1) := by decide +kernel
theorem dX10_open__29 : decode cX10_open_ 29 = .ok (.bipush 16, 2) := by decide +kernel
theorem dX10_open__31 : decode cX10_open_ 31 = .ok (.bipush 32, 2) := by decide +kernel
theorem dX10_open__33 : decode cX10_open_ 33 = .ok (.invokevirtual 275, 3) := by decide +kernel
theorem dX10_open__36 : decode cX10_open_ 36 = .ok (.aload_n 0, 1) := by decide +kernel
theorem dX10_open__37 : decode cX10_open_ 37 = .ok (.bipush 48, 2) := by decide +kernel
theorem dX10_open__39 : decode cX10_open_ 39 = .ok (.aload_n 0, 1) := by decide +kernel
theorem dX10_open__40 : decode cX10_open_ 40 = .ok (.getfield 27, 3) := by decide +kernel
theorem dX10_open__43 : decode cX10_open_ 43 = .ok (.bipush 16, 2) := by decide +kernel
theorem dX10_open__45 : decode cX10_open_ 45 = .ok (.laload, 1) := by decide +kernel
theorem dX10_open__46 : decode cX10_open_ 46 = .ok (.aload_n 0, 1) := by decide +kernel
theorem dX10_open__47 : decode cX10_open_ 47 = .ok (.getfield 27, 3) := by decide +kernel
theorem dX10_open__50 : decode cX10_open_ 50 = .ok (.bipush 17, 2) := by decide +kernel
theorem dX10_open__52 : decode cX10_open_ 52 = .ok (.laload, 1) := by decide +kernel
theorem dX10_open__53 : decode cX10_open_ 53 = .ok (.aload_n 0, 1) := by decide +kernel
theorem dX10_open__54 : decode cX10_open_ 54 = .ok (.getfield 27, 3) := by decide +kernel
theorem dX10_open__57 : decode cX10_open_ 57 = .ok (.bipush 18, 2) := by decide +kernel
theorem dX10_open__59 : decode cX10_open_ 59 = .ok (.laload, 1) := by decide +kernel
theorem dX10_open__60 : decode cX10_open_ 60 = .ok (.aload_n 0, 1) := by decide +kernel
theorem dX10_open__61 : decode cX10_open_ 61 = .ok (.getfield 27, 3) := by decide +kernel
theorem dX10_open__64 : decode cX10_open_ 64 = .ok (.bipush 19, 2) := by decide +kernel
theorem dX10_open__66 : decode cX10_open_ 66 = .ok (.laload, 1) := by decide +kernel
theorem dX10_open__67 : decode cX10_open_ 67 = .ok (.invokevirtual 72, 3) := by decide +kernel
theorem dX10_open__70 : decode cX10_open_ 70 = .ok (.aload_n 0, 1) := by decide +kernel
theorem dX10_open__71 : decode cX10_open_ 71 = .ok (.bipush 18, 2) := by decide +kernel
theorem dX10_open__73 : decode cX10_open_ 73 = .ok (.iconst 5, 1) := by decide +kernel
theorem dX10_open__74 : decode cX10_open_ 74 = .ok (.bipush 20, 2) := by decide +kernel
theorem dX10_open__76 : decode cX10_open_ 76 = .ok (.invokevirtual 253, 3) := by decide +kernel
theorem dX10_open__79 : decode cX10_open_ 79 = .ok (.aload_n 0, 1) := by decide +kernel
theorem dX10_open__80 : decode cX10_open_ 80 = .ok (.bipush 28, 2) := by decide +kernel
theorem dX10_open__82 : decode cX10_open_ 82 = .ok (.bipush 18, 2) := by decide +kernel
theorem dX10_open__84 : decode cX10_open_ 84 = .ok (.invokevirtual 241, 3) := by decide +kernel
theorem dX10_open__87 : decode cX10_open_ 87 = .ok (.return_, 1) := by decide +kernel
theorem dX10_key_0 : decode cX10_key 0 = .ok (.iload_n 1, 1) := by decide +kernel
theorem dX10_key_1 : decode cX10_key 1 = .ok (.invokestatic 222, 3) := by decide +kernel
theorem dX10_key_4 : decode cX10_key 4 = .ok (.ifCond .eq 10, 3) := by decide +kernel
theorem dX10_key_7 : decode cX10_key 7 = .ok (.iload_n 2, 1) := by decide +kernel
theorem dX10_key_8 : decode cX10_key 8 = .ok (.invokestatic 222, 3) := by decide +kernel
theorem dX10_key_11 : decode cX10_key 11 = .ok (.ifCond .ne 6, 3) := by decide +kernel
theorem dX10_key_14 : decode cX10_key 14 = .ok (.bipush (-101), 2) := by decide +kernel
theorem dX10_key_16 : decode cX10_key 16 = .ok (.ireturn, 1) := by decide +kernel
theorem dX10_key_17 : decode cX10_key 17 = .ok (.aload_n 0, 1) := by decide +kernel
theorem dX10_key_18 : decode cX10_key 18 = .ok (.getfield 17, 3) := by decide +kernel
theorem dX10_key_21 : decode cX10_key 21 = .ok (.iconst 1, 1) := by decide +kernel
theorem dX10_key_22 : decode cX10_key 22 = .ok (.if_icmp .ge 6, 3) := by decide +kernel
theorem dX10_key_25 : decode cX10_key 25 = .ok (.bipush (-103), 2) := by decide +kernel
theorem dX10_key_27 : decode cX10_key 27 = .ok (.ireturn, 1) := by decide +kernel
theorem dX10_key_28 : decode cX10_key 28 = .ok (.aload_n 0, 1) := by decide +kernel
theorem dX10_key_29 : decode cX10_key 29 = .ok (.dup, 1) := by decide +kernel
theorem dX10_key_30 : decode cX10_key 30 = .ok (.getfield 17, 3) := by decide +kernel
theorem dX10_key_33 : decode cX10_key 33 = .ok (.iconst 1, 1) := by decide +kernel
theorem dX10_key_34 : decode cX10_key 34 = .ok (.isub, 1) := by decide +kernel
theorem dX10_key_35 : decode cX10_key 35 = .ok (.putfield 17, 3) := by decide +kernel
theorem dX10_key_38 : decode cX10_key 38 = .ok (.aload_n 0, 1) := by decide +kernel
theorem dX10_key_39 : decode cX10_key 39 = .ok (.iload_n 1, 1) := by decide +kernel
theorem dX10_key_40 : decode cX10_key 40 = .ok (.invokevirtual 281, 3) := by decide +kernel
theorem dX10_key_43 : decode cX10_key 43 = .ok (.aload_n 0, 1) := by decide +kernel
theorem dX10_key_44 : decode cX10_key 44 = .ok (.iload_n 2, 1) := by decide +kernel
theorem dX10_key_45 : decode cX10_key 45 = .ok (.bipush 28, 2) := by decide +kernel
theorem dX10_key_47 : decode cX10_key 47 = .ok (.invokevirtual 228, 3) := by decide +kernel
theorem dX10_key_50 : decode cX10_key 50 = .ok (.iconst 1, 1) := by decide +kernel
theorem dX10_key_51 : decode cX10_key 51 = .ok (.ireturn, 1) := by decide +kernel
theorem dX10_sign_0 : decode cX10_sign 0 = .ok (.iload_n 1, 1) := by decide +kernel
theorem dX10_sign_1 : decode cX10_sign 1 = .ok (.invokestatic 222, 3) := by decide +kernel
theorem dX10_sign_4 : decode cX10_sign 4 = .ok (.ifCond .eq 19, 3) := by decide +kernel
theorem dX10_sign_7 : decode cX10_sign 7 = .ok (.iload_n 2, 1) := by decide +kernel
theorem dX10_sign_8 : decode cX10_sign 8 = .ok (.invokestatic 222, 3) := by decide +kernel
theorem dX10_sign_11 : decode cX10_sign 11 = .ok (.ifCond .eq 12, 3) := by decide +kernel
theorem dX10_sign_14 : decode cX10_sign 14 = .ok (.iload_n 2, 1) := by decide +kernel
theorem dX10_sign_15 : decode cX10_sign 15 = .ok (.iconst 1, 1) := by decide +kernel
theorem dX10_sign_16 : decode cX10_sign 16 = .ok (.iadd, 1) := by decide +kernel
theorem dX10_sign_17 : decode cX10_sign 17 = .ok (.invokestatic 222, 3) := by decide +kernel
theorem dX10_sign_20 : decode cX10_sign 20 = .ok (.ifCond .ne 6, 3) := by decide +kernel
theorem dX10_sign_23 : decode cX10_sign 23 = .ok (.bipush (-101), 2) := by decide +kernel
theorem dX10_sign_25 : decode cX10_sign 25 = .ok (.ireturn, 1) := by decide +kernel
theorem dX10_sign_26 : decode cX10_sign 26 = .ok (.aload_n 0, 1) := by decide +kernel
theorem dX10_sign_27 : decode cX10_sign 27 = .ok (.getfield 17, 3) := by decide +kernel
theorem dX10_sign_30 : decode cX10_sign 30 = .ok (.iconst 2, 1) := by decide +kernel
theorem dX10_sign_31 : decode cX10_sign 31 = .ok (.if_icmp .ge 6, 3) := by decide +kernel
theorem dX10_sign_34 : decode cX10_sign 34 = .ok (.bipush (-103), 2) := by decide +kernel
theorem dX10_sign_36 : decode cX10_sign 36 = .ok (.ireturn, 1) := by decide +kernel
theorem dX10_sign_37 : decode cX10_sign 37 = .ok (.aload_n 0, 1) := by decide +kernel
theorem dX10_sign_38 : decode cX10_sign 38 = .ok (.dup, 1) := by decide +kernel
theorem dX10_sign_39 : decode cX10_sign 39 = .ok (.getfield 17, 3) := by decide +kernel
theorem dX10_sign_42 : decode cX10_sign 42 = .ok (.iconst 2, 1) := by decide +kernel
theorem dX10_sign_43 : decode cX10_sign 43 = .ok (.isub, 1) := by decide +kernel
theorem dX10_sign_44 : decode cX10_sign 44 = .ok (.putfield 17, 3) := by decide +kernel
theorem dX10_sign_47 : decode cX10_sign 47 = .ok (.aload_n 0, 1) := by decide +kernel
theorem dX10_sign_48 : decode cX10_sign 48 = .ok (.iload_n 1, 1) := by decide +kernel
theorem dX10_sign_49 : decode cX10_sign 49 = .ok (.invokevirtual 281, 3) := by decide +kernel
theorem dX10_sign_52 : decode cX10_sign 52 = .ok (.aload_n 0, 1) := by decide +kernel
theorem dX10_sign_53 : decode cX10_sign 53 = .ok (.bipush 48, 2) := by decide +kernel
theorem dX10_sign_55 : decode cX10_sign 55 = .ok (.invokevirtual 278, 3) := by decide +kernel
theorem dX10_sign_58 : decode cX10_sign 58 = .ok (.aload_n 0, 1) := by decide +kernel
theorem dX10_sign_59 : decode cX10_sign 59 = .ok (.invokevirtual 269, 3) := by decide +kernel
theorem dX10_sign_62 : decode cX10_sign 62 = .ok (.aload_n 0, 1) := by decide +kernel
theorem dX10_sign_63 : decode cX10_sign 63 = .ok (.invokevirtual 272, 3) := by decide +kernel
theorem dX10_sign_66 : decode cX10_sign 66 = .ok (.aload_n 0, 1) := by decide +kernel
theorem dX10_sign_67 : decode cX10_sign 67 = .ok (.bipush 40, 2) := by decide +kernel
theorem dX10_sign_69 : decode cX10_sign 69 = .ok (.invokevirtual 283, 3) := by decide +kernel
theorem dX10_sign_72 : decode cX10_sign 72 = .ok (.aload_n 0, 1) := by decide +kernel
theorem dX10_sign_73 : decode cX10_sign 73 = .ok (.bipush 18, 2) := by decide +kernel
theorem dX10_sign_75 : decode cX10_sign 75 = .ok (.iconst 5, 1) := by decide +kernel
theorem dX10_sign_76 : decode cX10_sign 76 = .ok (.bipush 40, 2) := by decide +kernel
theorem dX10_sign_78 : decode cX10_sign 78 = .ok (.invokevirtual 253, 3) := by decide +kernel
theorem dX10_sign_81 : decode cX10_sign 81 = .ok (.aload_n 0, 1) := by decide +kernel
theorem dX10_sign_82 : decode cX10_sign 82 = .ok (.bipush 44, 2) := by decide +kernel
theorem dX10_sign_84 : decode cX10_sign 84 = .ok (.bipush 18, 2) := by decide +kernel
theorem dX10_sign_86 : decode cX10_sign 86 = .ok (.invokevirtual 241, 3) := by decide +kernel
theorem dX10_sign_89 : decode cX10_sign 89 = .ok (.aload_n 0, 1) := by decide +kernel
theorem dX10_sign_90 : decode cX10_sign 90 = .ok (.bipush 44, 2) := by decide +kernel
theorem dX10_sign_92 : decode cX10_sign 92 = .ok (.invokevirtual 278, 3) := by decide +kernel
theorem dX10_sign_95 : decode cX10_sign 95 = .ok (.aload_n 0, 1) := by decide +kernel
theorem dX10_sign_96 : decode cX10_sign 96 = .ok (.bipush 28, 2) := by decide +kernel
theorem dX10_sign_98 : decode cX10_sign 98 = .ok (.invokevirtual 278, 3) := by decide +kernel
theorem dX10_sign_101 : decode cX10_sign 101 = .ok (.aload_n 0, 1) := by decide +kernel
theorem dX10_sign_102 : decode cX10_sign 102 = .ok (.invokevirtual 269, 3) := by decide +kernel
theorem dX10_sign_105 : decode cX10_sign 105 = .ok (.aload_n 0, 1) := by decide +kernel
theorem dX10_sign_106 : decode cX10_sign 106 = .ok (.invokevirtual 272, 3) := by decide +kernel
theorem dX10_sign_109 : decode cX10_sign 109 = .ok (.aload_n 0, 1) := by decide +kernel
theorem dX10_sign_110 : decode cX10_sign 110 = .ok (.bipush 8, 2) := by decide +kernel
theorem dX10_sign_112 : decode cX10_sign 112 = .ok (.invokevirtual 283, 3) := by decide +kernel
theorem dX10_sign_115 : decode cX10_sign 115 = .ok (.aload_n 0, 1) := by decide +kernel
theorem dX10_sign_116 : decode cX10_sign 116 = .ok (.bipush 12, 2) := by decide +kernel
theorem dX10_sign_118 : decode cX10_sign 118 = .ok (.bipush 8, 2) := by decide +kernel
theorem dX10_sign_120 : decode cX10_sign 120 = .ok (.bipush 20, 2) := by decide +kernel
theorem dX10_sign_122 : decode cX10_sign 122 = .ok (.bipush 40, 2) := by decide +kernel
theorem dX10_sign_124 : decode cX10_sign 124 = .ok (.invokevirtual 237, 3) := by decide +kernel
theorem dX10_sign_127 : decode cX10_sign 127 = .ok (.aload_n 0, 1) := by decide +kernel
theorem dX10_sign_128 : decode cX10_sign 128 = .ok (.iload_n 2, 1) := by decide +kernel
theorem dX10_sign_129 : decode cX10_sign 129 = .ok (.bipush 44, 2) := by decide +kernel
theorem dX10_sign_131 : decode cX10_sign 131 = .ok (.invokevirtual 228, 3) := by decide +kernel
theorem dX10_sign_134 : decode cX10_sign 134 = .ok (.aload_n 0, 1) := by decide +kernel
theorem dX10_sign_135 : decode cX10_sign 135 = .ok (.iload_n 2, 1) := by decide +kernel
theorem dX10_sign_136 : decode cX10_sign 136 = .ok (.iconst 1, 1) := by decide +kernel
theorem dX10_sign_137 : decode cX10_sign 137 = .ok (.iadd, 1) := by decide +kernel
theorem dX10_sign_138 : decode cX10_sign 138 = .ok (.bipush 12, 2) := by decide +kernel
theorem dX10_sign_140 : decode cX10_sign 140 = .ok (.invokevirtual 228, 3) := by decide +kernel
theorem dX10_sign_143 : decode cX10_sign 143 = .ok (.aload_n 0, 1) := by decide +kernel
theorem dX10_sign_144 : decode cX10_sign 144 = .ok (.dup, 1) := by decide +kernel
theorem dX10_sign_145 : decode cX10_sign 145 = .ok (.getfield 286, 3) := by decide +kernel
theorem dX10_sign_148 : decode cX10_sign 148 = .ok (.iconst 1, 1) := by decide +kernel
theorem dX10_sign_149 : decode cX10_sign 149 = .ok (.iadd, 1) := by decide +kernel
theorem dX10_sign_150 : decode cX10_sign 150 = .ok (.putfield 286, 3) := by decide +kernel
theorem dX10_sign_153 : decode cX10_sign 153 = .ok (.iconst 1, 1) := by decide +kernel
theorem dX10_sign_154 : decode cX10_sign 154 = .ok (.ireturn, 1) := by decide +kernel
theorem dX10_eightTimes_0 : decode cX10_eightTimes 0 = .ok (.iconst 0, 1) := by decide +kernel
theorem dX10_eightTimes_1 : decode cX10_eightTimes 1 = .ok (.istore_n 2, 1) := by decide +kernel
theorem dX10_eightTimes_2 : decode cX10_eightTimes 2 = .ok (.iload_n 2, 1) := by decide +kernel
theorem dX10_eightTimes_3 : decode cX10_eightTimes 3 = .ok (.iconst 3, 1) := by decide +kernel
theorem dX10_eightTimes_4 : decode cX10_eightTimes 4 = .ok (.if_icmp .ge 15, 3) := by decide +kernel
theorem dX10_eightTimes_7 : decode cX10_eightTimes 7 = .ok (.aload_n 0, 1) := by decide +kernel
theorem dX10_eightTimes_8 : decode cX10_eightTimes 8 = .ok (.iload_n 1, 1) := by decide +kernel
theorem dX10_eightTimes_9 : decode cX10_eightTimes 9 = .ok (.iload_n 1, 1) := by decide +kernel
theorem dX10_eightTimes_10 : decode cX10_eightTimes 10 = .ok (.invokevirtual 174, 3) := by decide +kernel
theorem dX10_eightTimes_13 : decode cX10_eightTimes 13 = .ok (.iinc 2 1, 3) := by decide +kernel
theorem dX10_eightTimes_16 : decode cX10_eightTimes 16 = .ok (.goto (-14), 3) := by decide +kernel
theorem dX10_eightTimes_19 : decode cX10_eightTimes 19 = .ok (.return_, 1) := by decide +kernel
theorem dX10_isRight_0 : decode cX10_isRight 0 = .ok (.aload_n 0, 1) := by decide +kernel
theorem dX10_isRight_1 : decode cX10_isRight 1 = .ok (.bipush 8, 2) := by decide +kernel
theorem dX10_isRight_3 : decode cX10_isRight 3 = .ok (.iload_n 2, 1) := by decide +kernel
theorem dX10_isRight_4 : decode cX10_isRight 4 = .ok (.iconst 1, 1) := by decide +kernel
theorem dX10_isRight_5 : decode cX10_isRight 5 = .ok (.iadd, 1) := by decide +kernel
theorem dX10_isRight_6 : decode cX10_isRight 6 = .ok (.invokevirtual 225, 3) := by decide +kernel
theorem dX10_isRight_9 : decode cX10_isRight 9 = .ok (.aload_n 0, 1) := by decide +kernel
theorem dX10_isRight_10 : decode cX10_isRight 10 = .ok (.bipush 8, 2) := by decide +kernel
theorem dX10_isRight_12 : decode cX10_isRight 12 = .ok (.bipush 32, 2) := by decide +kernel
theorem dX10_isRight_14 : decode cX10_isRight 14 = .ok (.invokevirtual 161, 3) := by decide +kernel
theorem dX10_isRight_17 : decode cX10_isRight 17 = .ok (.ifCond .ge 23, 3) := by decide +kernel
theorem dX10_isRight_20 : decode cX10_isRight 20 = .ok (.aload_n 0, 1) := by decide +kernel
theorem dX10_isRight_21 : decode cX10_isRight 21 = .ok (.bipush 10, 2) := by decide +kernel
theorem dX10_isRight_23 : decode cX10_isRight 23 = .ok (.iload_n 1, 1) := by decide +kernel
theorem dX10_isRight_24 : decode cX10_isRight 24 = .ok (.invokevirtual 244, 3) := by decide +kernel
theorem dX10_isRight_27 : decode cX10_isRight 27 = .ok (.ifCond .eq 13, 3) := by decide +kernel
theorem dX10_isRight_30 : decode cX10_isRight 30 = .ok (.aload_n 0, 1) := by decide +kernel
theorem dX10_isRight_31 : decode cX10_isRight 31 = .ok (.bipush 14, 2) := by decide +kernel
theorem dX10_isRight_33 : decode cX10_isRight 33 = .ok (.iload_n 2, 1) := by decide +kernel
theorem dX10_isRight_34 : decode cX10_isRight 34 = .ok (.invokevirtual 244, 3) := by decide +kernel
theorem dX10_isRight_37 : decode cX10_isRight 37 = .ok (.ifCond .ne 5, 3) := by decide +kernel
theorem dX10_isRight_40 : decode cX10_isRight 40 = .ok (.iconst 0, 1) := by decide +kernel
theorem dX10_isRight_41 : decode cX10_isRight 41 = .ok (.ireturn, 1) := by decide +kernel
theorem dX10_isRight_42 : decode cX10_isRight 42 = .ok (.aload_n 0, 1) := by decide +kernel
theorem dX10_isRight_43 : decode cX10_isRight 43 = .ok (.iconst 4, 1) := by decide +kernel
theorem dX10_isRight_44 : decode cX10_isRight 44 = .ok (.iload_n 2, 1) := by decide +kernel
theorem dX10_isRight_45 : decode cX10_isRight 45 = .ok (.invokevirtual 225, 3) := by decide +kernel
theorem dX10_isRight_48 : decode cX10_isRight 48 = .ok (.aload_n 0, 1) := by decide +kernel
theorem dX10_isRight_49 : decode cX10_isRight 49 = .ok (.iconst 4, 1) := by decide +kernel
theorem dX10_isRight_50 : decode cX10_isRight 50 = .ok (.invokevirtual 278, 3) := by decide +kernel
theorem dX10_isRight_53 : decode cX10_isRight 53 = .ok (.aload_n 0, 1) := by decide +kernel
theorem dX10_isRight_54 : decode cX10_isRight 54 = .ok (.iconst 4, 1) := by decide +kernel
theorem dX10_isRight_55 : decode cX10_isRight 55 = .ok (.iload_n 1, 1) := by decide +kernel
theorem dX10_isRight_56 : decode cX10_isRight 56 = .ok (.invokevirtual 225, 3) := by decide +kernel
theorem dX10_isRight_59 : decode cX10_isRight 59 = .ok (.aload_n 0, 1) := by decide +kernel
theorem dX10_isRight_60 : decode cX10_isRight 60 = .ok (.iconst 4, 1) := by decide +kernel
theorem dX10_isRight_61 : decode cX10_isRight 61 = .ok (.invokevirtual 278, 3) := by decide +kernel
theorem dX10_isRight_64 : decode cX10_isRight 64 = .ok (.aload_n 0, 1) := by decide +kernel
theorem dX10_isRight_65 : decode cX10_isRight 65 = .ok (.invokevirtual 269, 3) := by decide +kernel
theorem dX10_isRight_68 : decode cX10_isRight 68 = .ok (.aload_n 0, 1) := by decide +kernel
theorem dX10_isRight_69 : decode cX10_isRight 69 = .ok (.invokevirtual 272, 3) := by decide +kernel
theorem dX10_isRight_72 : decode cX10_isRight 72 = .ok (.aload_n 0, 1) := by decide +kernel
theorem dX10_isRight_73 : decode cX10_isRight 73 = .ok (.bipush 20, 2) := by decide +kernel
theorem dX10_isRight_75 : decode cX10_isRight 75 = .ok (.invokevirtual 283, 3) := by decide +kernel
theorem dX10_isRight_78 : decode cX10_isRight 78 = .ok (.aload_n 0, 1) := by decide +kernel
theorem dX10_isRight_79 : decode cX10_isRight 79 = .ok (.bipush 18, 2) := by decide +kernel
theorem dX10_isRight_81 : decode cX10_isRight 81 = .ok (.iconst 5, 1) := by decide +kernel
theorem dX10_isRight_82 : decode cX10_isRight 82 = .ok (.bipush 8, 2) := by decide +kernel
theorem dX10_isRight_84 : decode cX10_isRight 84 = .ok (.invokevirtual 253, 3) := by decide +kernel
theorem dX10_isRight_87 : decode cX10_isRight 87 = .ok (.aload_n 0, 1) := by decide +kernel
theorem dX10_isRight_88 : decode cX10_isRight 88 = .ok (.bipush 18, 2) := by decide +kernel
theorem dX10_isRight_90 : decode cX10_isRight 90 = .ok (.invokevirtual 289, 3) := by decide +kernel
theorem dX10_isRight_93 : decode cX10_isRight 93 = .ok (.aload_n 0, 1) := by decide +kernel
theorem dX10_isRight_94 : decode cX10_isRight 94 = .ok (.bipush 22, 2) := by decide +kernel
theorem dX10_isRight_96 : decode cX10_isRight 96 = .ok (.bipush 10, 2) := by decide +kernel
theorem dX10_isRight_98 : decode cX10_isRight 98 = .ok (.bipush 20, 2) := by decide +kernel
theorem dX10_isRight_100 : decode cX10_isRight 100 = .ok (.invokevirtual 253, 3) := by decide +kernel
theorem dX10_isRight_103 : decode cX10_isRight 103 = .ok (.aload_n 0, 1) := by decide +kernel
theorem dX10_isRight_104 : decode cX10_isRight 104 = .ok (.bipush 22, 2) := by decide +kernel
theorem dX10_isRight_106 : decode cX10_isRight 106 = .ok (.bipush 14, 2) := by decide +kernel
theorem dX10_isRight_108 : decode cX10_isRight 108 = .ok (.invokevirtual 174, 3) := by decide +kernel
theorem dX10_isRight_111 : decode cX10_isRight 111 = .ok (.aload_n 0, 1) := by decide +kernel
theorem dX10_isRight_112 : decode cX10_isRight 112 = .ok (.bipush 22, 2) := by decide +kernel
theorem dX10_isRight_114 : decode cX10_isRight 114 = .ok (.invokevirtual 289, 3) := by decide +kernel
theorem dX10_isRight_117 : decode cX10_isRight 117 = .ok (.aload_n 0, 1) := by decide +kernel
theorem dX10_isRight_118 : decode cX10_isRight 118 = .ok (.bipush 22, 2) := by decide +kernel
theorem dX10_isRight_120 : decode cX10_isRight 120 = .ok (.invokevirtual 247, 3) := by decide +kernel
theorem dX10_isRight_123 : decode cX10_isRight 123 = .ok (.aload_n 0, 1) := by decide +kernel
theorem dX10_isRight_124 : decode cX10_isRight 124 = .ok (.bipush 18, 2) := by decide +kernel
theorem dX10_isRight_126 : decode cX10_isRight 126 = .ok (.bipush 22, 2) := by decide +kernel
theorem dX10_isRight_128 : decode cX10_isRight 128 = .ok (.invokevirtual 174, 3) := by decide +kernel
theorem dX10_isRight_131 : decode cX10_isRight 131 = .ok (.aload_n 0, 1) := by decide +kernel
theorem dX10_isRight_132 : decode cX10_isRight 132 = .ok (.bipush 18, 2) := by decide +kernel
theorem dX10_isRight_134 : decode cX10_isRight 134 = .ok (.invokevirtual 256, 3) := by decide +kernel
theorem dX10_isRight_137 : decode cX10_isRight 137 = .ok (.ireturn, 1) := by decide +kernel
theorem dX10_judge_0 : decode cX10_judge 0 = .ok (.iload_n 1, 1) := by decide +kernel
theorem dX10_judge_1 : decode cX10_judge 1 = .ok (.invokestatic 222, 3) := by decide +kernel
theorem dX10_judge_4 : decode cX10_judge 4 = .ok (.ifCond .eq 19, 3) := by decide +kernel
theorem dX10_judge_7 : decode cX10_judge 7 = .ok (.iload_n 2, 1) := by decide +kernel
theorem dX10_judge_8 : decode cX10_judge 8 = .ok (.invokestatic 222, 3) := by decide +kernel
theorem dX10_judge_11 : decode cX10_judge 11 = .ok (.ifCond .eq 12, 3) := by decide +kernel
theorem dX10_judge_14 : decode cX10_judge 14 = .ok (.iload_n 2, 1) := by decide +kernel
theorem dX10_judge_15 : decode cX10_judge 15 = .ok (.iconst 1, 1) := by decide +kernel
theorem dX10_judge_16 : decode cX10_judge 16 = .ok (.iadd, 1) := by decide +kernel
theorem dX10_judge_17 : decode cX10_judge 17 = .ok (.invokestatic 222, 3) := by decide +kernel
theorem dX10_judge_20 : decode cX10_judge 20 = .ok (.ifCond .ne 6, 3) := by decide +kernel
theorem dX10_judge_23 : decode cX10_judge 23 = .ok (.bipush (-101), 2) := by decide +kernel
theorem dX10_judge_25 : decode cX10_judge 25 = .ok (.ireturn, 1) := by decide +kernel
theorem dX10_judge_26 : decode cX10_judge 26 = .ok (.aload_n 0, 1) := by decide +kernel
theorem dX10_judge_27 : decode cX10_judge 27 = .ok (.getfield 17, 3) := by decide +kernel
theorem dX10_judge_30 : decode cX10_judge 30 = .ok (.iconst 2, 1) := by decide +kernel
theorem dX10_judge_31 : decode cX10_judge 31 = .ok (.if_icmp .ge 6, 3) := by decide +kernel
theorem dX10_judge_34 : decode cX10_judge 34 = .ok (.bipush (-103), 2) := by decide +kernel
theorem dX10_judge_36 : decode cX10_judge 36 = .ok (.ireturn, 1) := by decide +kernel
theorem dX10_judge_37 : decode cX10_judge 37 = .ok (.aload_n 0, 1) := by decide +kernel
theorem dX10_judge_38 : decode cX10_judge 38 = .ok (.dup, 1) := by decide +kernel
theorem dX10_judge_39 : decode cX10_judge 39 = .ok (.getfield 17, 3) := by decide +kernel
theorem dX10_judge_42 : decode cX10_judge 42 = .ok (.iconst 2, 1) := by decide +kernel
theorem dX10_judge_43 : decode cX10_judge 43 = .ok (.isub, 1) := by decide +kernel
theorem dX10_judge_44 : decode cX10_judge 44 = .ok (.putfield 17, 3) := by decide +kernel
theorem dX10_judge_47 : decode cX10_judge 47 = .ok (.aload_n 0, 1) := by decide +kernel
theorem dX10_judge_48 : decode cX10_judge 48 = .ok (.dup, 1) := by decide +kernel
theorem dX10_judge_49 : decode cX10_judge 49 = .ok (.getfield 292, 3) := by decide +kernel
theorem dX10_judge_52 : decode cX10_judge 52 = .ok (.iconst 1, 1) := by decide +kernel
theorem dX10_judge_53 : decode cX10_judge 53 = .ok (.iadd, 1) := by decide +kernel
theorem dX10_judge_54 : decode cX10_judge 54 = .ok (.putfield 292, 3) := by decide +kernel
theorem dX10_judge_57 : decode cX10_judge 57 = .ok (.aload_n 0, 1) := by decide +kernel
theorem dX10_judge_58 : decode cX10_judge 58 = .ok (.iload_n 1, 1) := by decide +kernel
theorem dX10_judge_59 : decode cX10_judge 59 = .ok (.iload_n 2, 1) := by decide +kernel
theorem dX10_judge_60 : decode cX10_judge 60 = .ok (.invokevirtual 295, 3) := by decide +kernel
theorem dX10_judge_63 : decode cX10_judge 63 = .ok (.ifCond .ne 5, 3) := by decide +kernel
theorem dX10_judge_66 : decode cX10_judge 66 = .ok (.iconst 0, 1) := by decide +kernel
theorem dX10_judge_67 : decode cX10_judge 67 = .ok (.ireturn, 1) := by decide +kernel
theorem dX10_judge_68 : decode cX10_judge 68 = .ok (.aload_n 0, 1) := by decide +kernel
theorem dX10_judge_69 : decode cX10_judge 69 = .ok (.dup, 1) := by decide +kernel
theorem dX10_judge_70 : decode cX10_judge 70 = .ok (.getfield 298, 3) := by decide +kernel
theorem dX10_judge_73 : decode cX10_judge 73 = .ok (.iconst 1, 1) := by decide +kernel
theorem dX10_judge_74 : decode cX10_judge 74 = .ok (.iadd, 1) := by decide +kernel
theorem dX10_judge_75 : decode cX10_judge 75 = .ok (.putfield 298, 3) := by decide +kernel
theorem dX10_judge_78 : decode cX10_judge 78 = .ok (.iconst 1, 1) := by decide +kernel
theorem dX10_judge_79 : decode cX10_judge 79 = .ok (.ireturn, 1) := by decide +kernel
theorem dX10_count_0 : decode cX10_count 0 = .ok (.iload_n 1, 1) := by decide +kernel
theorem dX10_count_1 : decode cX10_count 1 = .ok (.tableswitch 60 0 4 #[35, 40, 45, 50, 55], 35) := by decide +kernel
theorem dX10_count_36 : decode cX10_count 36 = .ok (.aload_n 0, 1) := by decide +kernel
theorem dX10_count_37 : decode cX10_count 37 = .ok (.getfield 203, 3) := by decide +kernel
theorem dX10_count_40 : decode cX10_count 40 = .ok (.ireturn, 1) := by decide +kernel
theorem dX10_count_41 : decode cX10_count 41 = .ok (.aload_n 0, 1) := by decide +kernel
theorem dX10_count_42 : decode cX10_count 42 = .ok (.getfield 17, 3) := by decide +kernel
theorem dX10_count_45 : decode cX10_count 45 = .ok (.ireturn, 1) := by decide +kernel
theorem dX10_count_46 : decode cX10_count 46 = .ok (.aload_n 0, 1) := by decide +kernel
theorem dX10_count_47 : decode cX10_count 47 = .ok (.getfield 286, 3) := by decide +kernel
theorem dX10_count_50 : decode cX10_count 50 = .ok (.ireturn, 1) := by decide +kernel
theorem dX10_count_51 : decode cX10_count 51 = .ok (.aload_n 0, 1) := by decide +kernel
theorem dX10_count_52 : decode cX10_count 52 = .ok (.getfield 292, 3) := by decide +kernel
theorem dX10_count_55 : decode cX10_count 55 = .ok (.ireturn, 1) := by decide +kernel
theorem dX10_count_56 : decode cX10_count 56 = .ok (.aload_n 0, 1) := by decide +kernel
theorem dX10_count_57 : decode cX10_count 57 = .ok (.getfield 298, 3) := by decide +kernel
theorem dX10_count_60 : decode cX10_count 60 = .ok (.ireturn, 1) := by decide +kernel
theorem dX10_count_61 : decode cX10_count 61 = .ok (.bipush (-102), 2) := by decide +kernel
theorem dX10_count_63 : decode cX10_count 63 = .ok (.ireturn, 1) := by decide +kernel

/-! DECODE ROWS, by program -/
theorem nd_MO_init_0 : decode prog_8_method_1_code 0 = .ok (.aload_n 0, 1) := by decide +kernel
theorem nd_MO_init_1 : decode prog_8_method_1_code 1 = .ok (.invokespecial 1, 3) := by decide +kernel
theorem nd_MO_init_4 : decode prog_8_method_1_code 4 = .ok (.aload_n 0, 1) := by decide +kernel
theorem nd_MO_init_5 : decode prog_8_method_1_code 5 = .ok (.iconst 1, 1) := by decide +kernel
theorem nd_MO_init_6 : decode prog_8_method_1_code 6 = .ok (.putfield 7, 3) := by decide +kernel
theorem nd_MO_init_9 : decode prog_8_method_1_code 9 = .ok (.aload_n 0, 1) := by decide +kernel
theorem nd_MO_init_10 : decode prog_8_method_1_code 10 = .ok (.sipush 20000, 3) := by decide +kernel
theorem nd_MO_init_13 : decode prog_8_method_1_code 13 = .ok (.newarray .byte, 2) := by decide +kernel
theorem nd_MO_init_15 : decode prog_8_method_1_code 15 = .ok (.putfield 13, 3) := by decide +kernel
theorem nd_MO_init_18 : decode prog_8_method_1_code 18 = .ok (.aload_n 0, 1) := by decide +kernel
theorem nd_MO_init_19 : decode prog_8_method_1_code 19 = .ok (.sipush 20000, 3) := by decide +kernel
theorem nd_MO_init_22 : decode prog_8_method_1_code 22 = .ok (.newarray .int, 2) := by decide +kernel
theorem nd_MO_init_24 : decode prog_8_method_1_code 24 = .ok (.putfield 17, 3) := by decide +kernel
theorem nd_MO_init_27 : decode prog_8_method_1_code 27 = .ok (.aload_n 0, 1) := by decide +kernel
theorem nd_MO_init_28 : decode prog_8_method_1_code 28 = .ok (.sipush 20000, 3) := by decide +kernel
theorem nd_MO_init_31 : decode prog_8_method_1_code 31 = .ok (.newarray .int, 2) := by decide +kernel
theorem nd_MO_init_33 : decode prog_8_method_1_code 33 = .ok (.putfield 21, 3) := by decide +kernel
theorem nd_MO_init_36 : decode prog_8_method_1_code 36 = .ok (.aload_n 0, 1) := by decide +kernel
theorem nd_MO_init_37 : decode prog_8_method_1_code 37 = .ok (.sipush 20000, 3) := by decide +kernel
theorem nd_MO_init_40 : decode prog_8_method_1_code 40 = .ok (.newarray .int, 2) := by decide +kernel
theorem nd_MO_init_42 : decode prog_8_method_1_code 42 = .ok (.putfield 24, 3) := by decide +kernel
theorem nd_MO_init_45 : decode prog_8_method_1_code 45 = .ok (.aload_n 0, 1) := by decide +kernel
theorem nd_MO_init_46 : decode prog_8_method_1_code 46 = .ok (.sipush 20000, 3) := by decide +kernel
theorem nd_MO_init_49 : decode prog_8_method_1_code 49 = .ok (.newarray .boolean, 2) := by decide +kernel
theorem nd_MO_init_51 : decode prog_8_method_1_code 51 = .ok (.putfield 27, 3) := by decide +kernel
theorem nd_MO_init_54 : decode prog_8_method_1_code 54 = .ok (.aload_n 0, 1) := by decide +kernel
theorem nd_MO_init_55 : decode prog_8_method_1_code 55 = .ok (.sipush 20000, 3) := by decide +kernel
theorem nd_MO_init_58 : decode prog_8_method_1_code 58 = .ok (.newarray .boolean, 2) := by decide +kernel
theorem nd_MO_init_60 : decode prog_8_method_1_code 60 = .ok (.putfield 31, 3) := by decide +kernel
theorem nd_MO_init_63 : decode prog_8_method_1_code 63 = .ok (.aload_n 0, 1) := by decide +kernel
theorem nd_MO_init_64 : decode prog_8_method_1_code 64 = .ok (.ldc 34, 2) := by decide +kernel
theorem nd_MO_init_66 : decode prog_8_method_1_code 66 = .ok (.newarray .int, 2) := by decide +kernel
theorem nd_MO_init_68 : decode prog_8_method_1_code 68 = .ok (.putfield 35, 3) := by decide +kernel
theorem nd_MO_init_71 : decode prog_8_method_1_code 71 = .ok (.aload_n 0, 1) := by decide +kernel
theorem nd_MO_init_72 : decode prog_8_method_1_code 72 = .ok (.iconst 1, 1) := by decide +kernel
theorem nd_MO_init_73 : decode prog_8_method_1_code 73 = .ok (.putfield 38, 3) := by decide +kernel
theorem nd_MO_init_76 : decode prog_8_method_1_code 76 = .ok (.aload_n 0, 1) := by decide +kernel
theorem nd_MO_init_77 : decode prog_8_method_1_code 77 = .ok (.sipush 520, 3) := by decide +kernel
theorem nd_MO_init_80 : decode prog_8_method_1_code 80 = .ok (.newarray .int, 2) := by decide +kernel
theorem nd_MO_init_82 : decode prog_8_method_1_code 82 = .ok (.putfield 42, 3) := by decide +kernel
theorem nd_MO_init_85 : decode prog_8_method_1_code 85 = .ok (.aload_n 0, 1) := by decide +kernel
theorem nd_MO_init_86 : decode prog_8_method_1_code 86 = .ok (.sipush 520, 3) := by decide +kernel
theorem nd_MO_init_89 : decode prog_8_method_1_code 89 = .ok (.newarray .int, 2) := by decide +kernel
theorem nd_MO_init_91 : decode prog_8_method_1_code 91 = .ok (.putfield 45, 3) := by decide +kernel
theorem nd_MO_init_94 : decode prog_8_method_1_code 94 = .ok (.aload_n 0, 1) := by decide +kernel
theorem nd_MO_init_95 : decode prog_8_method_1_code 95 = .ok (.sipush 520, 3) := by decide +kernel
theorem nd_MO_init_98 : decode prog_8_method_1_code 98 = .ok (.newarray .int, 2) := by decide +kernel
theorem nd_MO_init_100 : decode prog_8_method_1_code 100 = .ok (.putfield 48, 3) := by decide +kernel
theorem nd_MO_init_103 : decode prog_8_method_1_code 103 = .ok (.aload_n 0, 1) := by decide +kernel
theorem nd_MO_init_104 : decode prog_8_method_1_code 104 = .ok (.sipush 520, 3) := by decide +kernel
theorem nd_MO_init_107 : decode prog_8_method_1_code 107 = .ok (.newarray .int, 2) := by decide +kernel
theorem nd_MO_init_109 : decode prog_8_method_1_code 109 = .ok (.putfield 51, 3) := by decide +kernel
theorem nd_MO_init_112 : decode prog_8_method_1_code 112 = .ok (.aload_n 0, 1) := by decide +kernel
theorem nd_MO_init_113 : decode prog_8_method_1_code 113 = .ok (.sipush 520, 3) := by decide +kernel
theorem nd_MO_init_116 : decode prog_8_method_1_code 116 = .ok (.newarray .int, 2) := by decide +kernel
theorem nd_MO_init_118 : decode prog_8_method_1_code 118 = .ok (.putfield 54, 3) := by decide +kernel
theorem nd_MO_init_121 : decode prog_8_method_1_code 121 = .ok (.aload_n 0, 1) := by decide +kernel
theorem nd_MO_init_122 : decode prog_8_method_1_code 122 = .ok (.sipush 520, 3) := by decide +kernel
theorem nd_MO_init_125 : decode prog_8_method_1_code 125 = .ok (.newarray .int, 2) := by decide +kernel
theorem nd_MO_init_127 : decode prog_8_method_1_code 127 = .ok (.putfield 57, 3) := by decide +kernel
theorem nd_MO_init_130 : decode prog_8_method_1_code 130 = .ok (.aload_n 0, 1) := by decide +kernel
theorem nd_MO_init_131 : decode prog_8_method_1_code 131 = .ok (.bipush 66, 2) := by decide +kernel
theorem nd_MO_init_133 : decode prog_8_method_1_code 133 = .ok (.newarray .int, 2) := by decide +kernel
theorem nd_MO_init_135 : decode prog_8_method_1_code 135 = .ok (.putfield 60, 3) := by decide +kernel
theorem nd_MO_init_138 : decode prog_8_method_1_code 138 = .ok (.aload_n 0, 1) := by decide +kernel
theorem nd_MO_init_139 : decode prog_8_method_1_code 139 = .ok (.bipush 66, 2) := by decide +kernel
theorem nd_MO_init_141 : decode prog_8_method_1_code 141 = .ok (.newarray .int, 2) := by decide +kernel
theorem nd_MO_init_143 : decode prog_8_method_1_code 143 = .ok (.putfield 63, 3) := by decide +kernel
theorem nd_MO_init_146 : decode prog_8_method_1_code 146 = .ok (.aload_n 0, 1) := by decide +kernel
theorem nd_MO_init_147 : decode prog_8_method_1_code 147 = .ok (.bipush 33, 2) := by decide +kernel
theorem nd_MO_init_149 : decode prog_8_method_1_code 149 = .ok (.newarray .int, 2) := by decide +kernel
theorem nd_MO_init_151 : decode prog_8_method_1_code 151 = .ok (.putfield 66, 3) := by decide +kernel
theorem nd_MO_init_154 : decode prog_8_method_1_code 154 = .ok (.aload_n 0, 1) := by decide +kernel
theorem nd_MO_init_155 : decode prog_8_method_1_code 155 = .ok (.invokevirtual 69, 3) := by decide +kernel
theorem nd_MO_init_158 : decode prog_8_method_1_code 158 = .ok (.istore_n 1, 1) := by decide +kernel
theorem nd_MO_init_159 : decode prog_8_method_1_code 159 = .ok (.aload_n 0, 1) := by decide +kernel
theorem nd_MO_init_160 : decode prog_8_method_1_code 160 = .ok (.invokevirtual 69, 3) := by decide +kernel
theorem nd_MO_init_163 : decode prog_8_method_1_code 163 = .ok (.istore_n 2, 1) := by decide +kernel
theorem nd_MO_init_164 : decode prog_8_method_1_code 164 = .ok (.aload_n 0, 1) := by decide +kernel
theorem nd_MO_init_165 : decode prog_8_method_1_code 165 = .ok (.invokevirtual 69, 3) := by decide +kernel
theorem nd_MO_init_168 : decode prog_8_method_1_code 168 = .ok (.istore_n 3, 1) := by decide +kernel
theorem nd_MO_init_169 : decode prog_8_method_1_code 169 = .ok (.aload_n 0, 1) := by decide +kernel
theorem nd_MO_init_170 : decode prog_8_method_1_code 170 = .ok (.invokevirtual 69, 3) := by decide +kernel
theorem nd_MO_init_173 : decode prog_8_method_1_code 173 = .ok (.istore 4, 2) := by decide +kernel
theorem nd_MO_init_175 : decode prog_8_method_1_code 175 = .ok (.aload_n 0, 1) := by decide +kernel
theorem nd_MO_init_176 : decode prog_8_method_1_code 176 = .ok (.aload_n 0, 1) := by decide +kernel
theorem nd_MO_init_177 : decode prog_8_method_1_code 177 = .ok (.iload 4, 2) := by decide +kernel
theorem nd_MO_init_179 : decode prog_8_method_1_code 179 = .ok (.invokevirtual 73, 3) := by decide +kernel
theorem nd_MO_init_182 : decode prog_8_method_1_code 182 = .ok (.putfield 77, 3) := by decide +kernel
theorem nd_MO_init_185 : decode prog_8_method_1_code 185 = .ok (.aload_n 0, 1) := by decide +kernel
theorem nd_MO_init_186 : decode prog_8_method_1_code 186 = .ok (.iload_n 3, 1) := by decide +kernel
theorem nd_MO_init_187 : decode prog_8_method_1_code 187 = .ok (.iload_n 2, 1) := by decide +kernel
theorem nd_MO_init_188 : decode prog_8_method_1_code 188 = .ok (.invokevirtual 80, 3) := by decide +kernel
theorem nd_MO_init_191 : decode prog_8_method_1_code 191 = .ok (.istore 5, 2) := by decide +kernel
theorem nd_MO_init_193 : decode prog_8_method_1_code 193 = .ok (.aload_n 0, 1) := by decide +kernel
theorem nd_MO_init_194 : decode prog_8_method_1_code 194 = .ok (.getfield 60, 3) := by decide +kernel
theorem nd_MO_init_197 : decode prog_8_method_1_code 197 = .ok (.iconst 0, 1) := by decide +kernel
theorem nd_MO_init_198 : decode prog_8_method_1_code 198 = .ok (.aload_n 0, 1) := by decide +kernel
theorem nd_MO_init_199 : decode prog_8_method_1_code 199 = .ok (.iconst 4, 1) := by decide +kernel
theorem nd_MO_init_200 : decode prog_8_method_1_code 200 = .ok (.iload_n 1, 1) := by decide +kernel
theorem nd_MO_init_201 : decode prog_8_method_1_code 201 = .ok (.iload 5, 2) := by decide +kernel
theorem nd_MO_init_203 : decode prog_8_method_1_code 203 = .ok (.invokevirtual 84, 3) := by decide +kernel
theorem nd_MO_init_206 : decode prog_8_method_1_code 206 = .ok (.iastore, 1) := by decide +kernel
theorem nd_MO_init_207 : decode prog_8_method_1_code 207 = .ok (.aload_n 0, 1) := by decide +kernel
theorem nd_MO_init_208 : decode prog_8_method_1_code 208 = .ok (.getfield 60, 3) := by decide +kernel
theorem nd_MO_init_211 : decode prog_8_method_1_code 211 = .ok (.iconst 1, 1) := by decide +kernel
theorem nd_MO_init_212 : decode prog_8_method_1_code 212 = .ok (.iload_n 3, 1) := by decide +kernel
theorem nd_MO_init_213 : decode prog_8_method_1_code 213 = .ok (.iastore, 1) := by decide +kernel
theorem nd_MO_init_214 : decode prog_8_method_1_code 214 = .ok (.aload_n 0, 1) := by decide +kernel
theorem nd_MO_init_215 : decode prog_8_method_1_code 215 = .ok (.getfield 60, 3) := by decide +kernel
theorem nd_MO_init_218 : decode prog_8_method_1_code 218 = .ok (.iconst 2, 1) := by decide +kernel
theorem nd_MO_init_219 : decode prog_8_method_1_code 219 = .ok (.aload_n 0, 1) := by decide +kernel
theorem nd_MO_init_220 : decode prog_8_method_1_code 220 = .ok (.iload_n 2, 1) := by decide +kernel
theorem nd_MO_init_221 : decode prog_8_method_1_code 221 = .ok (.invokevirtual 73, 3) := by decide +kernel
theorem nd_MO_init_224 : decode prog_8_method_1_code 224 = .ok (.iastore, 1) := by decide +kernel
theorem nd_MO_init_225 : decode prog_8_method_1_code 225 = .ok (.aload_n 0, 1) := by decide +kernel
theorem nd_MO_init_226 : decode prog_8_method_1_code 226 = .ok (.getfield 60, 3) := by decide +kernel
theorem nd_MO_init_229 : decode prog_8_method_1_code 229 = .ok (.iconst 3, 1) := by decide +kernel
theorem nd_MO_init_230 : decode prog_8_method_1_code 230 = .ok (.aload_n 0, 1) := by decide +kernel
theorem nd_MO_init_231 : decode prog_8_method_1_code 231 = .ok (.iconst 5, 1) := by decide +kernel
theorem nd_MO_init_232 : decode prog_8_method_1_code 232 = .ok (.iload_n 1, 1) := by decide +kernel
theorem nd_MO_init_233 : decode prog_8_method_1_code 233 = .ok (.iload 5, 2) := by decide +kernel
theorem nd_MO_init_235 : decode prog_8_method_1_code 235 = .ok (.invokevirtual 84, 3) := by decide +kernel
theorem nd_MO_init_238 : decode prog_8_method_1_code 238 = .ok (.iastore, 1) := by decide +kernel
theorem nd_MO_init_239 : decode prog_8_method_1_code 239 = .ok (.aload_n 0, 1) := by decide +kernel
theorem nd_MO_init_240 : decode prog_8_method_1_code 240 = .ok (.getfield 60, 3) := by decide +kernel
theorem nd_MO_init_243 : decode prog_8_method_1_code 243 = .ok (.bipush 33, 2) := by decide +kernel
theorem nd_MO_init_245 : decode prog_8_method_1_code 245 = .ok (.iload_n 1, 1) := by decide +kernel
theorem nd_MO_init_246 : decode prog_8_method_1_code 246 = .ok (.iastore, 1) := by decide +kernel
theorem nd_MO_init_247 : decode prog_8_method_1_code 247 = .ok (.aload_n 0, 1) := by decide +kernel
theorem nd_MO_init_248 : decode prog_8_method_1_code 248 = .ok (.getfield 60, 3) := by decide +kernel
theorem nd_MO_init_251 : decode prog_8_method_1_code 251 = .ok (.bipush 34, 2) := by decide +kernel
theorem nd_MO_init_253 : decode prog_8_method_1_code 253 = .ok (.iload_n 2, 1) := by decide +kernel
theorem nd_MO_init_254 : decode prog_8_method_1_code 254 = .ok (.iastore, 1) := by decide +kernel
theorem nd_MO_init_255 : decode prog_8_method_1_code 255 = .ok (.iconst 0, 1) := by decide +kernel
theorem nd_MO_init_256 : decode prog_8_method_1_code 256 = .ok (.istore 6, 2) := by decide +kernel
theorem nd_MO_init_258 : decode prog_8_method_1_code 258 = .ok (.iload 6, 2) := by decide +kernel
theorem nd_MO_init_260 : decode prog_8_method_1_code 260 = .ok (.bipush 66, 2) := by decide +kernel
theorem nd_MO_init_262 : decode prog_8_method_1_code 262 = .ok (.if_icmp .ge 23, 3) := by decide +kernel
theorem nd_MO_init_265 : decode prog_8_method_1_code 265 = .ok (.aload_n 0, 1) := by decide +kernel
theorem nd_MO_init_266 : decode prog_8_method_1_code 266 = .ok (.getfield 63, 3) := by decide +kernel
theorem nd_MO_init_269 : decode prog_8_method_1_code 269 = .ok (.iload 6, 2) := by decide +kernel
theorem nd_MO_init_271 : decode prog_8_method_1_code 271 = .ok (.aload_n 0, 1) := by decide +kernel
theorem nd_MO_init_272 : decode prog_8_method_1_code 272 = .ok (.getfield 60, 3) := by decide +kernel
theorem nd_MO_init_275 : decode prog_8_method_1_code 275 = .ok (.iload 6, 2) := by decide +kernel
theorem nd_MO_init_277 : decode prog_8_method_1_code 277 = .ok (.iaload, 1) := by decide +kernel
theorem nd_MO_init_278 : decode prog_8_method_1_code 278 = .ok (.iastore, 1) := by decide +kernel
theorem nd_MO_init_279 : decode prog_8_method_1_code 279 = .ok (.iinc 6 1, 3) := by decide +kernel
theorem nd_MO_init_282 : decode prog_8_method_1_code 282 = .ok (.goto (-24), 3) := by decide +kernel
theorem nd_MO_init_285 : decode prog_8_method_1_code 285 = .ok (.return_, 1) := by decide +kernel
theorem nd_MO_draw_0 : decode prog_8_method_3_code 0 = .ok (.aload_n 0, 1) := by decide +kernel
theorem nd_MO_draw_1 : decode prog_8_method_3_code 1 = .ok (.dup, 1) := by decide +kernel
theorem nd_MO_draw_2 : decode prog_8_method_3_code 2 = .ok (.getfield 92, 3) := by decide +kernel
theorem nd_MO_draw_5 : decode prog_8_method_3_code 5 = .ok (.iconst 1, 1) := by decide +kernel
theorem nd_MO_draw_6 : decode prog_8_method_3_code 6 = .ok (.iadd, 1) := by decide +kernel
theorem nd_MO_draw_7 : decode prog_8_method_3_code 7 = .ok (.putfield 92, 3) := by decide +kernel
theorem nd_MO_draw_10 : decode prog_8_method_3_code 10 = .ok (.aload_n 0, 1) := by decide +kernel
theorem nd_MO_draw_11 : decode prog_8_method_3_code 11 = .ok (.iconst 1, 1) := by decide +kernel
theorem nd_MO_draw_12 : decode prog_8_method_3_code 12 = .ok (.aload_n 0, 1) := by decide +kernel
theorem nd_MO_draw_13 : decode prog_8_method_3_code 13 = .ok (.getfield 92, 3) := by decide +kernel
theorem nd_MO_draw_16 : decode prog_8_method_3_code 16 = .ok (.iconst 0, 1) := by decide +kernel
theorem nd_MO_draw_17 : decode prog_8_method_3_code 17 = .ok (.iconst 0, 1) := by decide +kernel
theorem nd_MO_draw_18 : decode prog_8_method_3_code 18 = .ok (.invokevirtual 95, 3) := by decide +kernel
theorem nd_MO_draw_21 : decode prog_8_method_3_code 21 = .ok (.ireturn, 1) := by decide +kernel
theorem nd_MO_term_0 : decode prog_8_method_2_code 0 = .ok (.iload_n 1, 1) := by decide +kernel
theorem nd_MO_term_1 : decode prog_8_method_2_code 1 = .ok (.bipush 31, 2) := by decide +kernel
theorem nd_MO_term_3 : decode prog_8_method_2_code 3 = .ok (.imul, 1) := by decide +kernel
theorem nd_MO_term_4 : decode prog_8_method_2_code 4 = .ok (.iload_n 2, 1) := by decide +kernel
theorem nd_MO_term_5 : decode prog_8_method_2_code 5 = .ok (.iadd, 1) := by decide +kernel
theorem nd_MO_term_6 : decode prog_8_method_2_code 6 = .ok (.ldc 88, 2) := by decide +kernel
theorem nd_MO_term_8 : decode prog_8_method_2_code 8 = .ok (.imul, 1) := by decide +kernel
theorem nd_MO_term_9 : decode prog_8_method_2_code 9 = .ok (.iload_n 3, 1) := by decide +kernel
theorem nd_MO_term_10 : decode prog_8_method_2_code 10 = .ok (.ixor, 1) := by decide +kernel
theorem nd_MO_term_11 : decode prog_8_method_2_code 11 = .ok (.ldc 89, 2) := by decide +kernel
theorem nd_MO_term_13 : decode prog_8_method_2_code 13 = .ok (.imul, 1) := by decide +kernel
theorem nd_MO_term_14 : decode prog_8_method_2_code 14 = .ok (.iload 4, 2) := by decide +kernel
theorem nd_MO_term_16 : decode prog_8_method_2_code 16 = .ok (.ldc 90, 2) := by decide +kernel
theorem nd_MO_term_18 : decode prog_8_method_2_code 18 = .ok (.imul, 1) := by decide +kernel
theorem nd_MO_term_19 : decode prog_8_method_2_code 19 = .ok (.ixor, 1) := by decide +kernel
theorem nd_MO_term_20 : decode prog_8_method_2_code 20 = .ok (.istore 5, 2) := by decide +kernel
theorem nd_MO_term_22 : decode prog_8_method_2_code 22 = .ok (.iload 5, 2) := by decide +kernel
theorem nd_MO_term_24 : decode prog_8_method_2_code 24 = .ok (.iload 5, 2) := by decide +kernel
theorem nd_MO_term_26 : decode prog_8_method_2_code 26 = .ok (.bipush 15, 2) := by decide +kernel
theorem nd_MO_term_28 : decode prog_8_method_2_code 28 = .ok (.iushr, 1) := by decide +kernel
theorem nd_MO_term_29 : decode prog_8_method_2_code 29 = .ok (.ixor, 1) := by decide +kernel
theorem nd_MO_term_30 : decode prog_8_method_2_code 30 = .ok (.ldc 91, 2) := by decide +kernel
theorem nd_MO_term_32 : decode prog_8_method_2_code 32 = .ok (.iand, 1) := by decide +kernel
theorem nd_MO_term_33 : decode prog_8_method_2_code 33 = .ok (.istore 6, 2) := by decide +kernel
theorem nd_MO_term_35 : decode prog_8_method_2_code 35 = .ok (.aload_n 0, 1) := by decide +kernel
theorem nd_MO_term_36 : decode prog_8_method_2_code 36 = .ok (.getfield 35, 3) := by decide +kernel
theorem nd_MO_term_39 : decode prog_8_method_2_code 39 = .ok (.iload 6, 2) := by decide +kernel
theorem nd_MO_term_41 : decode prog_8_method_2_code 41 = .ok (.iaload, 1) := by decide +kernel
theorem nd_MO_term_42 : decode prog_8_method_2_code 42 = .ok (.ifCond .eq 72, 3) := by decide +kernel
theorem nd_MO_term_45 : decode prog_8_method_2_code 45 = .ok (.aload_n 0, 1) := by decide +kernel
theorem nd_MO_term_46 : decode prog_8_method_2_code 46 = .ok (.getfield 35, 3) := by decide +kernel
theorem nd_MO_term_49 : decode prog_8_method_2_code 49 = .ok (.iload 6, 2) := by decide +kernel
theorem nd_MO_term_51 : decode prog_8_method_2_code 51 = .ok (.iaload, 1) := by decide +kernel
theorem nd_MO_term_52 : decode prog_8_method_2_code 52 = .ok (.istore 7, 2) := by decide +kernel
theorem nd_MO_term_54 : decode prog_8_method_2_code 54 = .ok (.aload_n 0, 1) := by decide +kernel
theorem nd_MO_term_55 : decode prog_8_method_2_code 55 = .ok (.getfield 13, 3) := by decide +kernel
theorem nd_MO_term_58 : decode prog_8_method_2_code 58 = .ok (.iload 7, 2) := by decide +kernel
theorem nd_MO_term_60 : decode prog_8_method_2_code 60 = .ok (.baload, 1) := by decide +kernel
theorem nd_MO_term_61 : decode prog_8_method_2_code 61 = .ok (.iload_n 1, 1) := by decide +kernel
theorem nd_MO_term_62 : decode prog_8_method_2_code 62 = .ok (.if_icmp .ne 40, 3) := by decide +kernel
theorem nd_MO_term_65 : decode prog_8_method_2_code 65 = .ok (.aload_n 0, 1) := by decide +kernel
theorem nd_MO_term_66 : decode prog_8_method_2_code 66 = .ok (.getfield 17, 3) := by decide +kernel
theorem nd_MO_term_69 : decode prog_8_method_2_code 69 = .ok (.iload 7, 2) := by decide +kernel
theorem nd_MO_term_71 : decode prog_8_method_2_code 71 = .ok (.iaload, 1) := by decide +kernel
theorem nd_MO_term_72 : decode prog_8_method_2_code 72 = .ok (.iload_n 2, 1) := by decide +kernel
theorem nd_MO_term_73 : decode prog_8_method_2_code 73 = .ok (.if_icmp .ne 29, 3) := by decide +kernel
theorem nd_MO_term_76 : decode prog_8_method_2_code 76 = .ok (.aload_n 0, 1) := by decide +kernel
theorem nd_MO_term_77 : decode prog_8_method_2_code 77 = .ok (.getfield 21, 3) := by decide +kernel
theorem nd_MO_term_80 : decode prog_8_method_2_code 80 = .ok (.iload 7, 2) := by decide +kernel
theorem nd_MO_term_82 : decode prog_8_method_2_code 82 = .ok (.iaload, 1) := by decide +kernel
theorem nd_MO_term_83 : decode prog_8_method_2_code 83 = .ok (.iload_n 3, 1) := by decide +kernel
theorem nd_MO_term_84 : decode prog_8_method_2_code 84 = .ok (.if_icmp .ne 18, 3) := by decide +kernel
theorem nd_MO_term_87 : decode prog_8_method_2_code 87 = .ok (.aload_n 0, 1) := by decide +kernel
theorem nd_MO_term_88 : decode prog_8_method_2_code 88 = .ok (.getfield 24, 3) := by decide +kernel
theorem nd_MO_term_91 : decode prog_8_method_2_code 91 = .ok (.iload 7, 2) := by decide +kernel
theorem nd_MO_term_93 : decode prog_8_method_2_code 93 = .ok (.iaload, 1) := by decide +kernel
theorem nd_MO_term_94 : decode prog_8_method_2_code 94 = .ok (.iload 4, 2) := by decide +kernel
theorem nd_MO_term_96 : decode prog_8_method_2_code 96 = .ok (.if_icmp .ne 6, 3) := by decide +kernel
theorem nd_MO_term_99 : decode prog_8_method_2_code 99 = .ok (.iload 7, 2) := by decide +kernel
theorem nd_MO_term_101 : decode prog_8_method_2_code 101 = .ok (.ireturn, 1) := by decide +kernel
theorem nd_MO_term_102 : decode prog_8_method_2_code 102 = .ok (.iload 6, 2) := by decide +kernel
theorem nd_MO_term_104 : decode prog_8_method_2_code 104 = .ok (.iconst 1, 1) := by decide +kernel
theorem nd_MO_term_105 : decode prog_8_method_2_code 105 = .ok (.iadd, 1) := by decide +kernel
theorem nd_MO_term_106 : decode prog_8_method_2_code 106 = .ok (.ldc 91, 2) := by decide +kernel
theorem nd_MO_term_108 : decode prog_8_method_2_code 108 = .ok (.iand, 1) := by decide +kernel
theorem nd_MO_term_109 : decode prog_8_method_2_code 109 = .ok (.istore 6, 2) := by decide +kernel
theorem nd_MO_term_111 : decode prog_8_method_2_code 111 = .ok (.goto (-76), 3) := by decide +kernel
theorem nd_MO_term_114 : decode prog_8_method_2_code 114 = .ok (.aload_n 0, 1) := by decide +kernel
theorem nd_MO_term_115 : decode prog_8_method_2_code 115 = .ok (.getfield 35, 3) := by decide +kernel
theorem nd_MO_term_118 : decode prog_8_method_2_code 118 = .ok (.iload 6, 2) := by decide +kernel
theorem nd_MO_term_120 : decode prog_8_method_2_code 120 = .ok (.aload_n 0, 1) := by decide +kernel
theorem nd_MO_term_121 : decode prog_8_method_2_code 121 = .ok (.getfield 7, 3) := by decide +kernel
theorem nd_MO_term_124 : decode prog_8_method_2_code 124 = .ok (.iastore, 1) := by decide +kernel
theorem nd_MO_term_125 : decode prog_8_method_2_code 125 = .ok (.aload_n 0, 1) := by decide +kernel
theorem nd_MO_term_126 : decode prog_8_method_2_code 126 = .ok (.getfield 13, 3) := by decide +kernel
theorem nd_MO_term_129 : decode prog_8_method_2_code 129 = .ok (.aload_n 0, 1) := by decide +kernel
theorem nd_MO_term_130 : decode prog_8_method_2_code 130 = .ok (.getfield 7, 3) := by decide +kernel
theorem nd_MO_term_133 : decode prog_8_method_2_code 133 = .ok (.iload_n 1, 1) := by decide +kernel
theorem nd_MO_term_134 : decode prog_8_method_2_code 134 = .ok (.i2b, 1) := by decide +kernel
theorem nd_MO_term_135 : decode prog_8_method_2_code 135 = .ok (.bastore, 1) := by decide +kernel
theorem nd_MO_term_136 : decode prog_8_method_2_code 136 = .ok (.aload_n 0, 1) := by decide +kernel
theorem nd_MO_term_137 : decode prog_8_method_2_code 137 = .ok (.getfield 17, 3) := by decide +kernel
theorem nd_MO_term_140 : decode prog_8_method_2_code 140 = .ok (.aload_n 0, 1) := by decide +kernel
theorem nd_MO_term_141 : decode prog_8_method_2_code 141 = .ok (.getfield 7, 3) := by decide +kernel
theorem nd_MO_term_144 : decode prog_8_method_2_code 144 = .ok (.iload_n 2, 1) := by decide +kernel
theorem nd_MO_term_145 : decode prog_8_method_2_code 145 = .ok (.iastore, 1) := by decide +kernel
theorem nd_MO_term_146 : decode prog_8_method_2_code 146 = .ok (.aload_n 0, 1) := by decide +kernel
theorem nd_MO_term_147 : decode prog_8_method_2_code 147 = .ok (.getfield 21, 3) := by decide +kernel
theorem nd_MO_term_150 : decode prog_8_method_2_code 150 = .ok (.aload_n 0, 1) := by decide +kernel
theorem nd_MO_term_151 : decode prog_8_method_2_code 151 = .ok (.getfield 7, 3) := by decide +kernel
theorem nd_MO_term_154 : decode prog_8_method_2_code 154 = .ok (.iload_n 3, 1) := by decide +kernel
theorem nd_MO_term_155 : decode prog_8_method_2_code 155 = .ok (.iastore, 1) := by decide +kernel
theorem nd_MO_term_156 : decode prog_8_method_2_code 156 = .ok (.aload_n 0, 1) := by decide +kernel
theorem nd_MO_term_157 : decode prog_8_method_2_code 157 = .ok (.getfield 24, 3) := by decide +kernel
theorem nd_MO_term_160 : decode prog_8_method_2_code 160 = .ok (.aload_n 0, 1) := by decide +kernel
theorem nd_MO_term_161 : decode prog_8_method_2_code 161 = .ok (.getfield 7, 3) := by decide +kernel
theorem nd_MO_term_164 : decode prog_8_method_2_code 164 = .ok (.iload 4, 2) := by decide +kernel
theorem nd_MO_term_166 : decode prog_8_method_2_code 166 = .ok (.iastore, 1) := by decide +kernel
theorem nd_MO_term_167 : decode prog_8_method_2_code 167 = .ok (.aload_n 0, 1) := by decide +kernel
theorem nd_MO_term_168 : decode prog_8_method_2_code 168 = .ok (.dup, 1) := by decide +kernel
theorem nd_MO_term_169 : decode prog_8_method_2_code 169 = .ok (.getfield 7, 3) := by decide +kernel
theorem nd_MO_term_172 : decode prog_8_method_2_code 172 = .ok (.iconst 1, 1) := by decide +kernel
theorem nd_MO_term_173 : decode prog_8_method_2_code 173 = .ok (.iadd, 1) := by decide +kernel
theorem nd_MO_term_174 : decode prog_8_method_2_code 174 = .ok (.putfield 7, 3) := by decide +kernel
theorem nd_MO_term_177 : decode prog_8_method_2_code 177 = .ok (.aload_n 0, 1) := by decide +kernel
theorem nd_MO_term_178 : decode prog_8_method_2_code 178 = .ok (.getfield 7, 3) := by decide +kernel
theorem nd_MO_term_181 : decode prog_8_method_2_code 181 = .ok (.iconst 1, 1) := by decide +kernel
theorem nd_MO_term_182 : decode prog_8_method_2_code 182 = .ok (.isub, 1) := by decide +kernel
theorem nd_MO_term_183 : decode prog_8_method_2_code 183 = .ok (.ireturn, 1) := by decide +kernel
theorem nd_MO_publicOf_0 : decode prog_8_method_4_code 0 = .ok (.aload_n 0, 1) := by decide +kernel
theorem nd_MO_publicOf_1 : decode prog_8_method_4_code 1 = .ok (.iconst 2, 1) := by decide +kernel
theorem nd_MO_publicOf_2 : decode prog_8_method_4_code 2 = .ok (.iload_n 1, 1) := by decide +kernel
theorem nd_MO_publicOf_3 : decode prog_8_method_4_code 3 = .ok (.iconst 0, 1) := by decide +kernel
theorem nd_MO_publicOf_4 : decode prog_8_method_4_code 4 = .ok (.iconst 0, 1) := by decide +kernel
theorem nd_MO_publicOf_5 : decode prog_8_method_4_code 5 = .ok (.invokevirtual 95, 3) := by decide +kernel
theorem nd_MO_publicOf_8 : decode prog_8_method_4_code 8 = .ok (.ireturn, 1) := by decide +kernel
theorem nd_MO_shared_0 : decode prog_8_method_5_code 0 = .ok (.iload_n 1, 1) := by decide +kernel
theorem nd_MO_shared_1 : decode prog_8_method_5_code 1 = .ok (.iload_n 2, 1) := by decide +kernel
theorem nd_MO_shared_2 : decode prog_8_method_5_code 2 = .ok (.if_icmp .ge 14, 3) := by decide +kernel
theorem nd_MO_shared_5 : decode prog_8_method_5_code 5 = .ok (.aload_n 0, 1) := by decide +kernel
theorem nd_MO_shared_6 : decode prog_8_method_5_code 6 = .ok (.iconst 3, 1) := by decide +kernel
theorem nd_MO_shared_7 : decode prog_8_method_5_code 7 = .ok (.iload_n 1, 1) := by decide +kernel
theorem nd_MO_shared_8 : decode prog_8_method_5_code 8 = .ok (.iload_n 2, 1) := by decide +kernel
theorem nd_MO_shared_9 : decode prog_8_method_5_code 9 = .ok (.iconst 0, 1) := by decide +kernel
theorem nd_MO_shared_10 : decode prog_8_method_5_code 10 = .ok (.invokevirtual 95, 3) := by decide +kernel
theorem nd_MO_shared_13 : decode prog_8_method_5_code 13 = .ok (.goto 11, 3) := by decide +kernel
theorem nd_MO_shared_16 : decode prog_8_method_5_code 16 = .ok (.aload_n 0, 1) := by decide +kernel
theorem nd_MO_shared_17 : decode prog_8_method_5_code 17 = .ok (.iconst 3, 1) := by decide +kernel
theorem nd_MO_shared_18 : decode prog_8_method_5_code 18 = .ok (.iload_n 2, 1) := by decide +kernel
theorem nd_MO_shared_19 : decode prog_8_method_5_code 19 = .ok (.iload_n 1, 1) := by decide +kernel
theorem nd_MO_shared_20 : decode prog_8_method_5_code 20 = .ok (.iconst 0, 1) := by decide +kernel
theorem nd_MO_shared_21 : decode prog_8_method_5_code 21 = .ok (.invokevirtual 95, 3) := by decide +kernel
theorem nd_MO_shared_24 : decode prog_8_method_5_code 24 = .ok (.ireturn, 1) := by decide +kernel
theorem nd_MO_mix_0 : decode prog_8_method_6_code 0 = .ok (.aload_n 0, 1) := by decide +kernel
theorem nd_MO_mix_1 : decode prog_8_method_6_code 1 = .ok (.iconst 4, 1) := by decide +kernel
theorem nd_MO_mix_2 : decode prog_8_method_6_code 2 = .ok (.iload_n 1, 1) := by decide +kernel
theorem nd_MO_mix_3 : decode prog_8_method_6_code 3 = .ok (.iload_n 2, 1) := by decide +kernel
theorem nd_MO_mix_4 : decode prog_8_method_6_code 4 = .ok (.iload_n 3, 1) := by decide +kernel
theorem nd_MO_mix_5 : decode prog_8_method_6_code 5 = .ok (.invokevirtual 95, 3) := by decide +kernel
theorem nd_MO_mix_8 : decode prog_8_method_6_code 8 = .ok (.ireturn, 1) := by decide +kernel
theorem nd_MO_send_0 : decode prog_8_method_17_code 0 = .ok (.iload_n 1, 1) := by decide +kernel
theorem nd_MO_send_1 : decode prog_8_method_17_code 1 = .ok (.invokestatic 115, 3) := by decide +kernel
theorem nd_MO_send_4 : decode prog_8_method_17_code 4 = .ok (.ifCond .ne 5, 3) := by decide +kernel
theorem nd_MO_send_7 : decode prog_8_method_17_code 7 = .ok (.iconst (-1), 1) := by decide +kernel
theorem nd_MO_send_8 : decode prog_8_method_17_code 8 = .ok (.ireturn, 1) := by decide +kernel
theorem nd_MO_send_9 : decode prog_8_method_17_code 9 = .ok (.aload_n 0, 1) := by decide +kernel
theorem nd_MO_send_10 : decode prog_8_method_17_code 10 = .ok (.iload_n 1, 1) := by decide +kernel
theorem nd_MO_send_11 : decode prog_8_method_17_code 11 = .ok (.invokevirtual 118, 3) := by decide +kernel
theorem nd_MO_send_14 : decode prog_8_method_17_code 14 = .ok (.aload_n 0, 1) := by decide +kernel
theorem nd_MO_send_15 : decode prog_8_method_17_code 15 = .ok (.getfield 66, 3) := by decide +kernel
theorem nd_MO_send_18 : decode prog_8_method_17_code 18 = .ok (.iconst 3, 1) := by decide +kernel
theorem nd_MO_send_19 : decode prog_8_method_17_code 19 = .ok (.iaload, 1) := by decide +kernel
theorem nd_MO_send_20 : decode prog_8_method_17_code 20 = .ok (.ifCond .ne 15, 3) := by decide +kernel
theorem nd_MO_send_23 : decode prog_8_method_17_code 23 = .ok (.aload_n 0, 1) := by decide +kernel
theorem nd_MO_send_24 : decode prog_8_method_17_code 24 = .ok (.getfield 66, 3) := by decide +kernel
theorem nd_MO_send_27 : decode prog_8_method_17_code 27 = .ok (.iconst 2, 1) := by decide +kernel
theorem nd_MO_send_28 : decode prog_8_method_17_code 28 = .ok (.iaload, 1) := by decide +kernel
theorem nd_MO_send_29 : decode prog_8_method_17_code 29 = .ok (.ifCond .ne 6, 3) := by decide +kernel
theorem nd_MO_send_32 : decode prog_8_method_17_code 32 = .ok (.bipush (-5), 2) := by decide +kernel
theorem nd_MO_send_34 : decode prog_8_method_17_code 34 = .ok (.ireturn, 1) := by decide +kernel
theorem nd_MO_send_35 : decode prog_8_method_17_code 35 = .ok (.aload_n 0, 1) := by decide +kernel
theorem nd_MO_send_36 : decode prog_8_method_17_code 36 = .ok (.getfield 66, 3) := by decide +kernel
theorem nd_MO_send_39 : decode prog_8_method_17_code 39 = .ok (.iconst 3, 1) := by decide +kernel
theorem nd_MO_send_40 : decode prog_8_method_17_code 40 = .ok (.iaload, 1) := by decide +kernel
theorem nd_MO_send_41 : decode prog_8_method_17_code 41 = .ok (.ifCond .ne 90, 3) := by decide +kernel
theorem nd_MO_send_44 : decode prog_8_method_17_code 44 = .ok (.aload_n 0, 1) := by decide +kernel
theorem nd_MO_send_45 : decode prog_8_method_17_code 45 = .ok (.getfield 66, 3) := by decide +kernel
theorem nd_MO_send_48 : decode prog_8_method_17_code 48 = .ok (.iconst 5, 1) := by decide +kernel
theorem nd_MO_send_49 : decode prog_8_method_17_code 49 = .ok (.aload_n 0, 1) := by decide +kernel
theorem nd_MO_send_50 : decode prog_8_method_17_code 50 = .ok (.getfield 66, 3) := by decide +kernel
theorem nd_MO_send_53 : decode prog_8_method_17_code 53 = .ok (.iconst 4, 1) := by decide +kernel
theorem nd_MO_send_54 : decode prog_8_method_17_code 54 = .ok (.iaload, 1) := by decide +kernel
theorem nd_MO_send_55 : decode prog_8_method_17_code 55 = .ok (.iastore, 1) := by decide +kernel
theorem nd_MO_send_56 : decode prog_8_method_17_code 56 = .ok (.aload_n 0, 1) := by decide +kernel
theorem nd_MO_send_57 : decode prog_8_method_17_code 57 = .ok (.getfield 66, 3) := by decide +kernel
theorem nd_MO_send_60 : decode prog_8_method_17_code 60 = .ok (.iconst 4, 1) := by decide +kernel
theorem nd_MO_send_61 : decode prog_8_method_17_code 61 = .ok (.iconst 0, 1) := by decide +kernel
theorem nd_MO_send_62 : decode prog_8_method_17_code 62 = .ok (.iastore, 1) := by decide +kernel
theorem nd_MO_send_63 : decode prog_8_method_17_code 63 = .ok (.aload_n 0, 1) := by decide +kernel
theorem nd_MO_send_64 : decode prog_8_method_17_code 64 = .ok (.getfield 66, 3) := by decide +kernel
theorem nd_MO_send_67 : decode prog_8_method_17_code 67 = .ok (.iconst 1, 1) := by decide +kernel
theorem nd_MO_send_68 : decode prog_8_method_17_code 68 = .ok (.aload_n 0, 1) := by decide +kernel
theorem nd_MO_send_69 : decode prog_8_method_17_code 69 = .ok (.invokevirtual 69, 3) := by decide +kernel
theorem nd_MO_send_72 : decode prog_8_method_17_code 72 = .ok (.iastore, 1) := by decide +kernel
theorem nd_MO_send_73 : decode prog_8_method_17_code 73 = .ok (.aload_n 0, 1) := by decide +kernel
theorem nd_MO_send_74 : decode prog_8_method_17_code 74 = .ok (.aload_n 0, 1) := by decide +kernel
theorem nd_MO_send_75 : decode prog_8_method_17_code 75 = .ok (.getfield 66, 3) := by decide +kernel
theorem nd_MO_send_78 : decode prog_8_method_17_code 78 = .ok (.iconst 1, 1) := by decide +kernel
theorem nd_MO_send_79 : decode prog_8_method_17_code 79 = .ok (.iaload, 1) := by decide +kernel
theorem nd_MO_send_80 : decode prog_8_method_17_code 80 = .ok (.aload_n 0, 1) := by decide +kernel
theorem nd_MO_send_81 : decode prog_8_method_17_code 81 = .ok (.getfield 17, 3) := by decide +kernel
theorem nd_MO_send_84 : decode prog_8_method_17_code 84 = .ok (.aload_n 0, 1) := by decide +kernel
theorem nd_MO_send_85 : decode prog_8_method_17_code 85 = .ok (.getfield 66, 3) := by decide +kernel
theorem nd_MO_send_88 : decode prog_8_method_17_code 88 = .ok (.iconst 2, 1) := by decide +kernel
theorem nd_MO_send_89 : decode prog_8_method_17_code 89 = .ok (.iaload, 1) := by decide +kernel
theorem nd_MO_send_90 : decode prog_8_method_17_code 90 = .ok (.iaload, 1) := by decide +kernel
theorem nd_MO_send_91 : decode prog_8_method_17_code 91 = .ok (.invokevirtual 80, 3) := by decide +kernel
theorem nd_MO_send_94 : decode prog_8_method_17_code 94 = .ok (.istore_n 2, 1) := by decide +kernel
theorem nd_MO_send_95 : decode prog_8_method_17_code 95 = .ok (.aload_n 0, 1) := by decide +kernel
theorem nd_MO_send_96 : decode prog_8_method_17_code 96 = .ok (.getfield 66, 3) := by decide +kernel
theorem nd_MO_send_99 : decode prog_8_method_17_code 99 = .ok (.iconst 3, 1) := by decide +kernel
theorem nd_MO_send_100 : decode prog_8_method_17_code 100 = .ok (.aload_n 0, 1) := by decide +kernel
theorem nd_MO_send_101 : decode prog_8_method_17_code 101 = .ok (.iconst 5, 1) := by decide +kernel
theorem nd_MO_send_102 : decode prog_8_method_17_code 102 = .ok (.aload_n 0, 1) := by decide +kernel
theorem nd_MO_send_103 : decode prog_8_method_17_code 103 = .ok (.getfield 66, 3) := by decide +kernel
theorem nd_MO_send_106 : decode prog_8_method_17_code 106 = .ok (.iconst 0, 1) := by decide +kernel
theorem nd_MO_send_107 : decode prog_8_method_17_code 107 = .ok (.iaload, 1) := by decide +kernel
theorem nd_MO_send_108 : decode prog_8_method_17_code 108 = .ok (.iload_n 2, 1) := by decide +kernel
theorem nd_MO_send_109 : decode prog_8_method_17_code 109 = .ok (.invokevirtual 84, 3) := by decide +kernel
theorem nd_MO_send_112 : decode prog_8_method_17_code 112 = .ok (.iastore, 1) := by decide +kernel
theorem nd_MO_send_113 : decode prog_8_method_17_code 113 = .ok (.aload_n 0, 1) := by decide +kernel
theorem nd_MO_send_114 : decode prog_8_method_17_code 114 = .ok (.getfield 66, 3) := by decide +kernel
theorem nd_MO_send_117 : decode prog_8_method_17_code 117 = .ok (.iconst 0, 1) := by decide +kernel
theorem nd_MO_send_118 : decode prog_8_method_17_code 118 = .ok (.aload_n 0, 1) := by decide +kernel
theorem nd_MO_send_119 : decode prog_8_method_17_code 119 = .ok (.iconst 4, 1) := by decide +kernel
theorem nd_MO_send_120 : decode prog_8_method_17_code 120 = .ok (.aload_n 0, 1) := by decide +kernel
theorem nd_MO_send_121 : decode prog_8_method_17_code 121 = .ok (.getfield 66, 3) := by decide +kernel
theorem nd_MO_send_124 : decode prog_8_method_17_code 124 = .ok (.iconst 0, 1) := by decide +kernel
theorem nd_MO_send_125 : decode prog_8_method_17_code 125 = .ok (.iaload, 1) := by decide +kernel
theorem nd_MO_send_126 : decode prog_8_method_17_code 126 = .ok (.iload_n 2, 1) := by decide +kernel
theorem nd_MO_send_127 : decode prog_8_method_17_code 127 = .ok (.invokevirtual 84, 3) := by decide +kernel
theorem nd_MO_send_130 : decode prog_8_method_17_code 130 = .ok (.iastore, 1) := by decide +kernel
theorem nd_MO_send_131 : decode prog_8_method_17_code 131 = .ok (.aload_n 0, 1) := by decide +kernel
theorem nd_MO_send_132 : decode prog_8_method_17_code 132 = .ok (.aload_n 0, 1) := by decide +kernel
theorem nd_MO_send_133 : decode prog_8_method_17_code 133 = .ok (.getfield 66, 3) := by decide +kernel
theorem nd_MO_send_136 : decode prog_8_method_17_code 136 = .ok (.iconst 1, 1) := by decide +kernel
theorem nd_MO_send_137 : decode prog_8_method_17_code 137 = .ok (.iaload, 1) := by decide +kernel
theorem nd_MO_send_138 : decode prog_8_method_17_code 138 = .ok (.invokevirtual 73, 3) := by decide +kernel
theorem nd_MO_send_141 : decode prog_8_method_17_code 141 = .ok (.istore_n 2, 1) := by decide +kernel
theorem nd_MO_send_142 : decode prog_8_method_17_code 142 = .ok (.aload_n 0, 1) := by decide +kernel
theorem nd_MO_send_143 : decode prog_8_method_17_code 143 = .ok (.getfield 42, 3) := by decide +kernel
theorem nd_MO_send_146 : decode prog_8_method_17_code 146 = .ok (.aload_n 0, 1) := by decide +kernel
theorem nd_MO_send_147 : decode prog_8_method_17_code 147 = .ok (.getfield 122, 3) := by decide +kernel
theorem nd_MO_send_150 : decode prog_8_method_17_code 150 = .ok (.aload_n 0, 1) := by decide +kernel
theorem nd_MO_send_151 : decode prog_8_method_17_code 151 = .ok (.getfield 66, 3) := by decide +kernel
theorem nd_MO_send_154 : decode prog_8_method_17_code 154 = .ok (.iconst 4, 1) := by decide +kernel
theorem nd_MO_send_155 : decode prog_8_method_17_code 155 = .ok (.iaload, 1) := by decide +kernel
theorem nd_MO_send_156 : decode prog_8_method_17_code 156 = .ok (.iastore, 1) := by decide +kernel
theorem nd_MO_send_157 : decode prog_8_method_17_code 157 = .ok (.aload_n 0, 1) := by decide +kernel
theorem nd_MO_send_158 : decode prog_8_method_17_code 158 = .ok (.getfield 45, 3) := by decide +kernel
theorem nd_MO_send_161 : decode prog_8_method_17_code 161 = .ok (.aload_n 0, 1) := by decide +kernel
theorem nd_MO_send_162 : decode prog_8_method_17_code 162 = .ok (.getfield 122, 3) := by decide +kernel
theorem nd_MO_send_165 : decode prog_8_method_17_code 165 = .ok (.aload_n 0, 1) := by decide +kernel
theorem nd_MO_send_166 : decode prog_8_method_17_code 166 = .ok (.getfield 66, 3) := by decide +kernel
theorem nd_MO_send_169 : decode prog_8_method_17_code 169 = .ok (.iconst 5, 1) := by decide +kernel
theorem nd_MO_send_170 : decode prog_8_method_17_code 170 = .ok (.iaload, 1) := by decide +kernel
theorem nd_MO_send_171 : decode prog_8_method_17_code 171 = .ok (.iastore, 1) := by decide +kernel
theorem nd_MO_send_172 : decode prog_8_method_17_code 172 = .ok (.aload_n 0, 1) := by decide +kernel
theorem nd_MO_send_173 : decode prog_8_method_17_code 173 = .ok (.getfield 48, 3) := by decide +kernel
theorem nd_MO_send_176 : decode prog_8_method_17_code 176 = .ok (.aload_n 0, 1) := by decide +kernel
theorem nd_MO_send_177 : decode prog_8_method_17_code 177 = .ok (.getfield 122, 3) := by decide +kernel
theorem nd_MO_send_180 : decode prog_8_method_17_code 180 = .ok (.iload_n 1, 1) := by decide +kernel
theorem nd_MO_send_181 : decode prog_8_method_17_code 181 = .ok (.iastore, 1) := by decide +kernel
theorem nd_MO_send_182 : decode prog_8_method_17_code 182 = .ok (.aload_n 0, 1) := by decide +kernel
theorem nd_MO_send_183 : decode prog_8_method_17_code 183 = .ok (.getfield 51, 3) := by decide +kernel
theorem nd_MO_send_186 : decode prog_8_method_17_code 186 = .ok (.aload_n 0, 1) := by decide +kernel
theorem nd_MO_send_187 : decode prog_8_method_17_code 187 = .ok (.getfield 122, 3) := by decide +kernel
theorem nd_MO_send_190 : decode prog_8_method_17_code 190 = .ok (.iload_n 2, 1) := by decide +kernel
theorem nd_MO_send_191 : decode prog_8_method_17_code 191 = .ok (.iastore, 1) := by decide +kernel
theorem nd_MO_send_192 : decode prog_8_method_17_code 192 = .ok (.aload_n 0, 1) := by decide +kernel
theorem nd_MO_send_193 : decode prog_8_method_17_code 193 = .ok (.bipush 6, 2) := by decide +kernel
theorem nd_MO_send_195 : decode prog_8_method_17_code 195 = .ok (.iconst 1, 1) := by decide +kernel
theorem nd_MO_send_196 : decode prog_8_method_17_code 196 = .ok (.aload_n 0, 1) := by decide +kernel
theorem nd_MO_send_197 : decode prog_8_method_17_code 197 = .ok (.aload_n 0, 1) := by decide +kernel
theorem nd_MO_send_198 : decode prog_8_method_17_code 198 = .ok (.getfield 122, 3) := by decide +kernel
theorem nd_MO_send_201 : decode prog_8_method_17_code 201 = .ok (.invokevirtual 125, 3) := by decide +kernel
theorem nd_MO_send_204 : decode prog_8_method_17_code 204 = .ok (.iadd, 1) := by decide +kernel
theorem nd_MO_send_205 : decode prog_8_method_17_code 205 = .ok (.aload_n 0, 1) := by decide +kernel
theorem nd_MO_send_206 : decode prog_8_method_17_code 206 = .ok (.getfield 77, 3) := by decide +kernel
theorem nd_MO_send_209 : decode prog_8_method_17_code 209 = .ok (.iload_n 2, 1) := by decide +kernel
theorem nd_MO_send_210 : decode prog_8_method_17_code 210 = .ok (.invokevirtual 95, 3) := by decide +kernel
theorem nd_MO_send_213 : decode prog_8_method_17_code 213 = .ok (.istore_n 3, 1) := by decide +kernel
theorem nd_MO_send_214 : decode prog_8_method_17_code 214 = .ok (.aload_n 0, 1) := by decide +kernel
theorem nd_MO_send_215 : decode prog_8_method_17_code 215 = .ok (.dup, 1) := by decide +kernel
theorem nd_MO_send_216 : decode prog_8_method_17_code 216 = .ok (.getfield 122, 3) := by decide +kernel
theorem nd_MO_send_219 : decode prog_8_method_17_code 219 = .ok (.iconst 1, 1) := by decide +kernel
theorem nd_MO_send_220 : decode prog_8_method_17_code 220 = .ok (.iadd, 1) := by decide +kernel
theorem nd_MO_send_221 : decode prog_8_method_17_code 221 = .ok (.putfield 122, 3) := by decide +kernel
theorem nd_MO_send_224 : decode prog_8_method_17_code 224 = .ok (.aload_n 0, 1) := by decide +kernel
theorem nd_MO_send_225 : decode prog_8_method_17_code 225 = .ok (.getfield 57, 3) := by decide +kernel
theorem nd_MO_send_228 : decode prog_8_method_17_code 228 = .ok (.aload_n 0, 1) := by decide +kernel
theorem nd_MO_send_229 : decode prog_8_method_17_code 229 = .ok (.getfield 128, 3) := by decide +kernel
theorem nd_MO_send_232 : decode prog_8_method_17_code 232 = .ok (.aload_n 0, 1) := by decide +kernel
theorem nd_MO_send_233 : decode prog_8_method_17_code 233 = .ok (.invokevirtual 69, 3) := by decide +kernel
theorem nd_MO_send_236 : decode prog_8_method_17_code 236 = .ok (.iastore, 1) := by decide +kernel
theorem nd_MO_send_237 : decode prog_8_method_17_code 237 = .ok (.aload_n 0, 1) := by decide +kernel
theorem nd_MO_send_238 : decode prog_8_method_17_code 238 = .ok (.getfield 54, 3) := by decide +kernel
theorem nd_MO_send_241 : decode prog_8_method_17_code 241 = .ok (.aload_n 0, 1) := by decide +kernel
theorem nd_MO_send_242 : decode prog_8_method_17_code 242 = .ok (.getfield 128, 3) := by decide +kernel
theorem nd_MO_send_245 : decode prog_8_method_17_code 245 = .ok (.aload_n 0, 1) := by decide +kernel
theorem nd_MO_send_246 : decode prog_8_method_17_code 246 = .ok (.iconst 5, 1) := by decide +kernel
theorem nd_MO_send_247 : decode prog_8_method_17_code 247 = .ok (.aload_n 0, 1) := by decide +kernel
theorem nd_MO_send_248 : decode prog_8_method_17_code 248 = .ok (.bipush 6, 2) := by decide +kernel
theorem nd_MO_send_250 : decode prog_8_method_17_code 250 = .ok (.aload_n 0, 1) := by decide +kernel
theorem nd_MO_send_251 : decode prog_8_method_17_code 251 = .ok (.getfield 66, 3) := by decide +kernel
theorem nd_MO_send_254 : decode prog_8_method_17_code 254 = .ok (.iconst 3, 1) := by decide +kernel
theorem nd_MO_send_255 : decode prog_8_method_17_code 255 = .ok (.iaload, 1) := by decide +kernel
theorem nd_MO_send_256 : decode prog_8_method_17_code 256 = .ok (.iconst 0, 1) := by decide +kernel
theorem nd_MO_send_257 : decode prog_8_method_17_code 257 = .ok (.invokevirtual 84, 3) := by decide +kernel
theorem nd_MO_send_260 : decode prog_8_method_17_code 260 = .ok (.iload_n 3, 1) := by decide +kernel
theorem nd_MO_send_261 : decode prog_8_method_17_code 261 = .ok (.aload_n 0, 1) := by decide +kernel
theorem nd_MO_send_262 : decode prog_8_method_17_code 262 = .ok (.bipush 6, 2) := by decide +kernel
theorem nd_MO_send_264 : decode prog_8_method_17_code 264 = .ok (.iconst 0, 1) := by decide +kernel
theorem nd_MO_send_265 : decode prog_8_method_17_code 265 = .ok (.aload_n 0, 1) := by decide +kernel
theorem nd_MO_send_266 : decode prog_8_method_17_code 266 = .ok (.getfield 57, 3) := by decide +kernel
theorem nd_MO_send_269 : decode prog_8_method_17_code 269 = .ok (.aload_n 0, 1) := by decide +kernel
theorem nd_MO_send_270 : decode prog_8_method_17_code 270 = .ok (.getfield 128, 3) := by decide +kernel
theorem nd_MO_send_273 : decode prog_8_method_17_code 273 = .ok (.iaload, 1) := by decide +kernel
theorem nd_MO_send_274 : decode prog_8_method_17_code 274 = .ok (.iconst 0, 1) := by decide +kernel
theorem nd_MO_send_275 : decode prog_8_method_17_code 275 = .ok (.invokevirtual 95, 3) := by decide +kernel
theorem nd_MO_send_278 : decode prog_8_method_17_code 278 = .ok (.invokevirtual 95, 3) := by decide +kernel
theorem nd_MO_send_281 : decode prog_8_method_17_code 281 = .ok (.iastore, 1) := by decide +kernel
theorem nd_MO_send_282 : decode prog_8_method_17_code 282 = .ok (.aload_n 0, 1) := by decide +kernel
theorem nd_MO_send_283 : decode prog_8_method_17_code 283 = .ok (.aload_n 0, 1) := by decide +kernel
theorem nd_MO_send_284 : decode prog_8_method_17_code 284 = .ok (.getfield 54, 3) := by decide +kernel
theorem nd_MO_send_287 : decode prog_8_method_17_code 287 = .ok (.aload_n 0, 1) := by decide +kernel
theorem nd_MO_send_288 : decode prog_8_method_17_code 288 = .ok (.getfield 128, 3) := by decide +kernel
theorem nd_MO_send_291 : decode prog_8_method_17_code 291 = .ok (.iaload, 1) := by decide +kernel
theorem nd_MO_send_292 : decode prog_8_method_17_code 292 = .ok (.invokevirtual 131, 3) := by decide +kernel
theorem nd_MO_send_295 : decode prog_8_method_17_code 295 = .ok (.aload_n 0, 1) := by decide +kernel
theorem nd_MO_send_296 : decode prog_8_method_17_code 296 = .ok (.getfield 66, 3) := by decide +kernel
theorem nd_MO_send_299 : decode prog_8_method_17_code 299 = .ok (.iconst 3, 1) := by decide +kernel
theorem nd_MO_send_300 : decode prog_8_method_17_code 300 = .ok (.aload_n 0, 1) := by decide +kernel
theorem nd_MO_send_301 : decode prog_8_method_17_code 301 = .ok (.bipush 7, 2) := by decide +kernel
theorem nd_MO_send_303 : decode prog_8_method_17_code 303 = .ok (.aload_n 0, 1) := by decide +kernel
theorem nd_MO_send_304 : decode prog_8_method_17_code 304 = .ok (.getfield 66, 3) := by decide +kernel
theorem nd_MO_send_307 : decode prog_8_method_17_code 307 = .ok (.iconst 3, 1) := by decide +kernel
theorem nd_MO_send_308 : decode prog_8_method_17_code 308 = .ok (.iaload, 1) := by decide +kernel
theorem nd_MO_send_309 : decode prog_8_method_17_code 309 = .ok (.iconst 0, 1) := by decide +kernel
theorem nd_MO_send_310 : decode prog_8_method_17_code 310 = .ok (.invokevirtual 84, 3) := by decide +kernel
theorem nd_MO_send_313 : decode prog_8_method_17_code 313 = .ok (.iastore, 1) := by decide +kernel
theorem nd_MO_send_314 : decode prog_8_method_17_code 314 = .ok (.aload_n 0, 1) := by decide +kernel
theorem nd_MO_send_315 : decode prog_8_method_17_code 315 = .ok (.getfield 66, 3) := by decide +kernel
theorem nd_MO_send_318 : decode prog_8_method_17_code 318 = .ok (.iconst 4, 1) := by decide +kernel
theorem nd_MO_send_319 : decode prog_8_method_17_code 319 = .ok (.dup2, 1) := by decide +kernel
theorem nd_MO_send_320 : decode prog_8_method_17_code 320 = .ok (.iaload, 1) := by decide +kernel
theorem nd_MO_send_321 : decode prog_8_method_17_code 321 = .ok (.iconst 1, 1) := by decide +kernel
theorem nd_MO_send_322 : decode prog_8_method_17_code 322 = .ok (.iadd, 1) := by decide +kernel
theorem nd_MO_send_323 : decode prog_8_method_17_code 323 = .ok (.iastore, 1) := by decide +kernel
theorem nd_MO_send_324 : decode prog_8_method_17_code 324 = .ok (.aload_n 0, 1) := by decide +kernel
theorem nd_MO_send_325 : decode prog_8_method_17_code 325 = .ok (.iload_n 1, 1) := by decide +kernel
theorem nd_MO_send_326 : decode prog_8_method_17_code 326 = .ok (.invokevirtual 134, 3) := by decide +kernel
theorem nd_MO_send_329 : decode prog_8_method_17_code 329 = .ok (.aload_n 0, 1) := by decide +kernel
theorem nd_MO_send_330 : decode prog_8_method_17_code 330 = .ok (.dup, 1) := by decide +kernel
theorem nd_MO_send_331 : decode prog_8_method_17_code 331 = .ok (.getfield 128, 3) := by decide +kernel
theorem nd_MO_send_334 : decode prog_8_method_17_code 334 = .ok (.iconst 1, 1) := by decide +kernel
theorem nd_MO_send_335 : decode prog_8_method_17_code 335 = .ok (.iadd, 1) := by decide +kernel
theorem nd_MO_send_336 : decode prog_8_method_17_code 336 = .ok (.putfield 128, 3) := by decide +kernel
theorem nd_MO_send_339 : decode prog_8_method_17_code 339 = .ok (.aload_n 0, 1) := by decide +kernel
theorem nd_MO_send_340 : decode prog_8_method_17_code 340 = .ok (.getfield 128, 3) := by decide +kernel
theorem nd_MO_send_343 : decode prog_8_method_17_code 343 = .ok (.iconst 1, 1) := by decide +kernel
theorem nd_MO_send_344 : decode prog_8_method_17_code 344 = .ok (.isub, 1) := by decide +kernel
theorem nd_MO_send_345 : decode prog_8_method_17_code 345 = .ok (.ireturn, 1) := by decide +kernel
theorem nd_MO_isEnd_0 : decode prog_8_method_14_code 0 = .ok (.iload_n 0, 1) := by decide +kernel
theorem nd_MO_isEnd_1 : decode prog_8_method_14_code 1 = .ok (.ifCond .eq 8, 3) := by decide +kernel
theorem nd_MO_isEnd_4 : decode prog_8_method_14_code 4 = .ok (.iload_n 0, 1) := by decide +kernel
theorem nd_MO_isEnd_5 : decode prog_8_method_14_code 5 = .ok (.iconst 1, 1) := by decide +kernel
theorem nd_MO_isEnd_6 : decode prog_8_method_14_code 6 = .ok (.if_icmp .ne 7, 3) := by decide +kernel
theorem nd_MO_isEnd_9 : decode prog_8_method_14_code 9 = .ok (.iconst 1, 1) := by decide +kernel
theorem nd_MO_isEnd_10 : decode prog_8_method_14_code 10 = .ok (.goto 4, 3) := by decide +kernel
theorem nd_MO_isEnd_13 : decode prog_8_method_14_code 13 = .ok (.iconst 0, 1) := by decide +kernel
theorem nd_MO_isEnd_14 : decode prog_8_method_14_code 14 = .ok (.ireturn, 1) := by decide +kernel
theorem nd_MO_load_0 : decode prog_8_method_15_code 0 = .ok (.iconst 0, 1) := by decide +kernel
theorem nd_MO_load_1 : decode prog_8_method_15_code 1 = .ok (.istore_n 2, 1) := by decide +kernel
theorem nd_MO_load_2 : decode prog_8_method_15_code 2 = .ok (.iload_n 2, 1) := by decide +kernel
theorem nd_MO_load_3 : decode prog_8_method_15_code 3 = .ok (.bipush 33, 2) := by decide +kernel
theorem nd_MO_load_5 : decode prog_8_method_15_code 5 = .ok (.if_icmp .ge 26, 3) := by decide +kernel
theorem nd_MO_load_8 : decode prog_8_method_15_code 8 = .ok (.aload_n 0, 1) := by decide +kernel
theorem nd_MO_load_9 : decode prog_8_method_15_code 9 = .ok (.getfield 66, 3) := by decide +kernel
theorem nd_MO_load_12 : decode prog_8_method_15_code 12 = .ok (.iload_n 2, 1) := by decide +kernel
theorem nd_MO_load_13 : decode prog_8_method_15_code 13 = .ok (.aload_n 0, 1) := by decide +kernel
theorem nd_MO_load_14 : decode prog_8_method_15_code 14 = .ok (.getfield 60, 3) := by decide +kernel
theorem nd_MO_load_17 : decode prog_8_method_15_code 17 = .ok (.bipush 33, 2) := by decide +kernel
theorem nd_MO_load_19 : decode prog_8_method_15_code 19 = .ok (.iload_n 1, 1) := by decide +kernel
theorem nd_MO_load_20 : decode prog_8_method_15_code 20 = .ok (.imul, 1) := by decide +kernel
theorem nd_MO_load_21 : decode prog_8_method_15_code 21 = .ok (.iload_n 2, 1) := by decide +kernel
theorem nd_MO_load_22 : decode prog_8_method_15_code 22 = .ok (.iadd, 1) := by decide +kernel
theorem nd_MO_load_23 : decode prog_8_method_15_code 23 = .ok (.iaload, 1) := by decide +kernel
theorem nd_MO_load_24 : decode prog_8_method_15_code 24 = .ok (.iastore, 1) := by decide +kernel
theorem nd_MO_load_25 : decode prog_8_method_15_code 25 = .ok (.iinc 2 1, 3) := by decide +kernel
theorem nd_MO_load_28 : decode prog_8_method_15_code 28 = .ok (.goto (-26), 3) := by decide +kernel
theorem nd_MO_load_31 : decode prog_8_method_15_code 31 = .ok (.return_, 1) := by decide +kernel
theorem nd_MO_headLike_0 : decode prog_8_method_18_code 0 = .ok (.iconst 0, 1) := by decide +kernel
theorem nd_MO_headLike_1 : decode prog_8_method_18_code 1 = .ok (.istore_n 2, 1) := by decide +kernel
theorem nd_MO_headLike_2 : decode prog_8_method_18_code 2 = .ok (.aload_n 0, 1) := by decide +kernel
theorem nd_MO_headLike_3 : decode prog_8_method_18_code 3 = .ok (.getfield 42, 3) := by decide +kernel
theorem nd_MO_headLike_6 : decode prog_8_method_18_code 6 = .ok (.iload_n 2, 1) := by decide +kernel
theorem nd_MO_headLike_7 : decode prog_8_method_18_code 7 = .ok (.iaload, 1) := by decide +kernel
theorem nd_MO_headLike_8 : decode prog_8_method_18_code 8 = .ok (.aload_n 0, 1) := by decide +kernel
theorem nd_MO_headLike_9 : decode prog_8_method_18_code 9 = .ok (.getfield 42, 3) := by decide +kernel
theorem nd_MO_headLike_12 : decode prog_8_method_18_code 12 = .ok (.iload_n 1, 1) := by decide +kernel
theorem nd_MO_headLike_13 : decode prog_8_method_18_code 13 = .ok (.iaload, 1) := by decide +kernel
theorem nd_MO_headLike_14 : decode prog_8_method_18_code 14 = .ok (.if_icmp .ne 48, 3) := by decide +kernel
theorem nd_MO_headLike_17 : decode prog_8_method_18_code 17 = .ok (.aload_n 0, 1) := by decide +kernel
theorem nd_MO_headLike_18 : decode prog_8_method_18_code 18 = .ok (.getfield 45, 3) := by decide +kernel
theorem nd_MO_headLike_21 : decode prog_8_method_18_code 21 = .ok (.iload_n 2, 1) := by decide +kernel
theorem nd_MO_headLike_22 : decode prog_8_method_18_code 22 = .ok (.iaload, 1) := by decide +kernel
theorem nd_MO_headLike_23 : decode prog_8_method_18_code 23 = .ok (.aload_n 0, 1) := by decide +kernel
theorem nd_MO_headLike_24 : decode prog_8_method_18_code 24 = .ok (.getfield 45, 3) := by decide +kernel
theorem nd_MO_headLike_27 : decode prog_8_method_18_code 27 = .ok (.iload_n 1, 1) := by decide +kernel
theorem nd_MO_headLike_28 : decode prog_8_method_18_code 28 = .ok (.iaload, 1) := by decide +kernel
theorem nd_MO_headLike_29 : decode prog_8_method_18_code 29 = .ok (.if_icmp .ne 33, 3) := by decide +kernel
theorem nd_MO_headLike_32 : decode prog_8_method_18_code 32 = .ok (.aload_n 0, 1) := by decide +kernel
theorem nd_MO_headLike_33 : decode prog_8_method_18_code 33 = .ok (.getfield 48, 3) := by decide +kernel
theorem nd_MO_headLike_36 : decode prog_8_method_18_code 36 = .ok (.iload_n 2, 1) := by decide +kernel
theorem nd_MO_headLike_37 : decode prog_8_method_18_code 37 = .ok (.iaload, 1) := by decide +kernel
theorem nd_MO_headLike_38 : decode prog_8_method_18_code 38 = .ok (.aload_n 0, 1) := by decide +kernel
theorem nd_MO_headLike_39 : decode prog_8_method_18_code 39 = .ok (.getfield 48, 3) := by decide +kernel
theorem nd_MO_headLike_42 : decode prog_8_method_18_code 42 = .ok (.iload_n 1, 1) := by decide +kernel
theorem nd_MO_headLike_43 : decode prog_8_method_18_code 43 = .ok (.iaload, 1) := by decide +kernel
theorem nd_MO_headLike_44 : decode prog_8_method_18_code 44 = .ok (.if_icmp .ne 18, 3) := by decide +kernel
theorem nd_MO_headLike_47 : decode prog_8_method_18_code 47 = .ok (.aload_n 0, 1) := by decide +kernel
theorem nd_MO_headLike_48 : decode prog_8_method_18_code 48 = .ok (.getfield 51, 3) := by decide +kernel
theorem nd_MO_headLike_51 : decode prog_8_method_18_code 51 = .ok (.iload_n 2, 1) := by decide +kernel
theorem nd_MO_headLike_52 : decode prog_8_method_18_code 52 = .ok (.iaload, 1) := by decide +kernel
theorem nd_MO_headLike_53 : decode prog_8_method_18_code 53 = .ok (.aload_n 0, 1) := by decide +kernel
theorem nd_MO_headLike_54 : decode prog_8_method_18_code 54 = .ok (.getfield 51, 3) := by decide +kernel
theorem nd_MO_headLike_57 : decode prog_8_method_18_code 57 = .ok (.iload_n 1, 1) := by decide +kernel
theorem nd_MO_headLike_58 : decode prog_8_method_18_code 58 = .ok (.iaload, 1) := by decide +kernel
theorem nd_MO_headLike_59 : decode prog_8_method_18_code 59 = .ok (.if_icmp .eq 9, 3) := by decide +kernel
theorem nd_MO_headLike_62 : decode prog_8_method_18_code 62 = .ok (.iinc 2 1, 3) := by decide +kernel
theorem nd_MO_headLike_65 : decode prog_8_method_18_code 65 = .ok (.goto (-63), 3) := by decide +kernel
theorem nd_MO_headLike_68 : decode prog_8_method_18_code 68 = .ok (.iload_n 2, 1) := by decide +kernel
theorem nd_MO_headLike_69 : decode prog_8_method_18_code 69 = .ok (.ireturn, 1) := by decide +kernel
theorem nd_MO_give_0 : decode prog_8_method_7_code 0 = .ok (.iload_n 1, 1) := by decide +kernel
theorem nd_MO_give_1 : decode prog_8_method_7_code 1 = .ok (.ifCond .eq 12, 3) := by decide +kernel
theorem nd_MO_give_4 : decode prog_8_method_7_code 4 = .ok (.aload_n 0, 1) := by decide +kernel
theorem nd_MO_give_5 : decode prog_8_method_7_code 5 = .ok (.getfield 27, 3) := by decide +kernel
theorem nd_MO_give_8 : decode prog_8_method_7_code 8 = .ok (.iload_n 1, 1) := by decide +kernel
theorem nd_MO_give_9 : decode prog_8_method_7_code 9 = .ok (.baload, 1) := by decide +kernel
theorem nd_MO_give_10 : decode prog_8_method_7_code 10 = .ok (.ifCond .eq 4, 3) := by decide +kernel
theorem nd_MO_give_13 : decode prog_8_method_7_code 13 = .ok (.return_, 1) := by decide +kernel
theorem nd_MO_give_14 : decode prog_8_method_7_code 14 = .ok (.aload_n 0, 1) := by decide +kernel
theorem nd_MO_give_15 : decode prog_8_method_7_code 15 = .ok (.getfield 27, 3) := by decide +kernel
theorem nd_MO_give_18 : decode prog_8_method_7_code 18 = .ok (.iload_n 1, 1) := by decide +kernel
theorem nd_MO_give_19 : decode prog_8_method_7_code 19 = .ok (.iconst 1, 1) := by decide +kernel
theorem nd_MO_give_20 : decode prog_8_method_7_code 20 = .ok (.bastore, 1) := by decide +kernel
theorem nd_MO_give_21 : decode prog_8_method_7_code 21 = .ok (.aload_n 0, 1) := by decide +kernel
theorem nd_MO_give_22 : decode prog_8_method_7_code 22 = .ok (.iconst 1, 1) := by decide +kernel
theorem nd_MO_give_23 : decode prog_8_method_7_code 23 = .ok (.putfield 38, 3) := by decide +kernel
theorem nd_MO_give_26 : decode prog_8_method_7_code 26 = .ok (.return_, 1) := by decide +kernel
theorem nd_MO_store_0 : decode prog_8_method_16_code 0 = .ok (.iconst 0, 1) := by decide +kernel
theorem nd_MO_store_1 : decode prog_8_method_16_code 1 = .ok (.istore_n 2, 1) := by decide +kernel
theorem nd_MO_store_2 : decode prog_8_method_16_code 2 = .ok (.iload_n 2, 1) := by decide +kernel
theorem nd_MO_store_3 : decode prog_8_method_16_code 3 = .ok (.bipush 33, 2) := by decide +kernel
theorem nd_MO_store_5 : decode prog_8_method_16_code 5 = .ok (.if_icmp .ge 26, 3) := by decide +kernel
theorem nd_MO_store_8 : decode prog_8_method_16_code 8 = .ok (.aload_n 0, 1) := by decide +kernel
theorem nd_MO_store_9 : decode prog_8_method_16_code 9 = .ok (.getfield 60, 3) := by decide +kernel
theorem nd_MO_store_12 : decode prog_8_method_16_code 12 = .ok (.bipush 33, 2) := by decide +kernel
theorem nd_MO_store_14 : decode prog_8_method_16_code 14 = .ok (.iload_n 1, 1) := by decide +kernel
theorem nd_MO_store_15 : decode prog_8_method_16_code 15 = .ok (.imul, 1) := by decide +kernel
theorem nd_MO_store_16 : decode prog_8_method_16_code 16 = .ok (.iload_n 2, 1) := by decide +kernel
theorem nd_MO_store_17 : decode prog_8_method_16_code 17 = .ok (.iadd, 1) := by decide +kernel
theorem nd_MO_store_18 : decode prog_8_method_16_code 18 = .ok (.aload_n 0, 1) := by decide +kernel
theorem nd_MO_store_19 : decode prog_8_method_16_code 19 = .ok (.getfield 66, 3) := by decide +kernel
theorem nd_MO_store_22 : decode prog_8_method_16_code 22 = .ok (.iload_n 2, 1) := by decide +kernel
theorem nd_MO_store_23 : decode prog_8_method_16_code 23 = .ok (.iaload, 1) := by decide +kernel
theorem nd_MO_store_24 : decode prog_8_method_16_code 24 = .ok (.iastore, 1) := by decide +kernel
theorem nd_MO_store_25 : decode prog_8_method_16_code 25 = .ok (.iinc 2 1, 3) := by decide +kernel
theorem nd_MO_store_28 : decode prog_8_method_16_code 28 = .ok (.goto (-26), 3) := by decide +kernel
theorem nd_MO_store_31 : decode prog_8_method_16_code 31 = .ok (.return_, 1) := by decide +kernel
theorem nd_MO_take_0 : decode prog_8_method_23_code 0 = .ok (.iload_n 1, 1) := by decide +kernel
theorem nd_MO_take_1 : decode prog_8_method_23_code 1 = .ok (.invokestatic 115, 3) := by decide +kernel
theorem nd_MO_take_4 : decode prog_8_method_23_code 4 = .ok (.ifCond .eq 15, 3) := by decide +kernel
theorem nd_MO_take_7 : decode prog_8_method_23_code 7 = .ok (.iload_n 2, 1) := by decide +kernel
theorem nd_MO_take_8 : decode prog_8_method_23_code 8 = .ok (.ifCond .lt 11, 3) := by decide +kernel
theorem nd_MO_take_11 : decode prog_8_method_23_code 11 = .ok (.iload_n 2, 1) := by decide +kernel
theorem nd_MO_take_12 : decode prog_8_method_23_code 12 = .ok (.aload_n 0, 1) := by decide +kernel
theorem nd_MO_take_13 : decode prog_8_method_23_code 13 = .ok (.getfield 128, 3) := by decide +kernel
theorem nd_MO_take_16 : decode prog_8_method_23_code 16 = .ok (.if_icmp .lt 5, 3) := by decide +kernel
theorem nd_MO_take_19 : decode prog_8_method_23_code 19 = .ok (.iconst (-1), 1) := by decide +kernel
theorem nd_MO_take_20 : decode prog_8_method_23_code 20 = .ok (.ireturn, 1) := by decide +kernel
theorem nd_MO_take_21 : decode prog_8_method_23_code 21 = .ok (.aload_n 0, 1) := by decide +kernel
theorem nd_MO_take_22 : decode prog_8_method_23_code 22 = .ok (.getfield 48, 3) := by decide +kernel
theorem nd_MO_take_25 : decode prog_8_method_23_code 25 = .ok (.iload_n 2, 1) := by decide +kernel
theorem nd_MO_take_26 : decode prog_8_method_23_code 26 = .ok (.iaload, 1) := by decide +kernel
theorem nd_MO_take_27 : decode prog_8_method_23_code 27 = .ok (.iload_n 1, 1) := by decide +kernel
theorem nd_MO_take_28 : decode prog_8_method_23_code 28 = .ok (.if_icmp .ne 6, 3) := by decide +kernel
theorem nd_MO_take_31 : decode prog_8_method_23_code 31 = .ok (.bipush (-11), 2) := by decide +kernel
theorem nd_MO_take_33 : decode prog_8_method_23_code 33 = .ok (.ireturn, 1) := by decide +kernel
theorem nd_MO_take_34 : decode prog_8_method_23_code 34 = .ok (.aload_n 0, 1) := by decide +kernel
theorem nd_MO_take_35 : decode prog_8_method_23_code 35 = .ok (.iload_n 1, 1) := by decide +kernel
theorem nd_MO_take_36 : decode prog_8_method_23_code 36 = .ok (.invokevirtual 118, 3) := by decide +kernel
theorem nd_MO_take_39 : decode prog_8_method_23_code 39 = .ok (.aload_n 0, 1) := by decide +kernel
theorem nd_MO_take_40 : decode prog_8_method_23_code 40 = .ok (.aload_n 0, 1) := by decide +kernel
theorem nd_MO_take_41 : decode prog_8_method_23_code 41 = .ok (.getfield 51, 3) := by decide +kernel
theorem nd_MO_take_44 : decode prog_8_method_23_code 44 = .ok (.iload_n 2, 1) := by decide +kernel
theorem nd_MO_take_45 : decode prog_8_method_23_code 45 = .ok (.iaload, 1) := by decide +kernel
theorem nd_MO_take_46 : decode prog_8_method_23_code 46 = .ok (.aload_n 0, 1) := by decide +kernel
theorem nd_MO_take_47 : decode prog_8_method_23_code 47 = .ok (.getfield 42, 3) := by decide +kernel
theorem nd_MO_take_50 : decode prog_8_method_23_code 50 = .ok (.iload_n 2, 1) := by decide +kernel
theorem nd_MO_take_51 : decode prog_8_method_23_code 51 = .ok (.iaload, 1) := by decide +kernel
theorem nd_MO_take_52 : decode prog_8_method_23_code 52 = .ok (.aload_n 0, 1) := by decide +kernel
theorem nd_MO_take_53 : decode prog_8_method_23_code 53 = .ok (.getfield 45, 3) := by decide +kernel
theorem nd_MO_take_56 : decode prog_8_method_23_code 56 = .ok (.iload_n 2, 1) := by decide +kernel
theorem nd_MO_take_57 : decode prog_8_method_23_code 57 = .ok (.iaload, 1) := by decide +kernel
theorem nd_MO_take_58 : decode prog_8_method_23_code 58 = .ok (.invokevirtual 146, 3) := by decide +kernel
theorem nd_MO_take_61 : decode prog_8_method_23_code 61 = .ok (.istore_n 3, 1) := by decide +kernel
theorem nd_MO_take_62 : decode prog_8_method_23_code 62 = .ok (.iload_n 3, 1) := by decide +kernel
theorem nd_MO_take_63 : decode prog_8_method_23_code 63 = .ok (.ifCond .ne 6, 3) := by decide +kernel
theorem nd_MO_take_66 : decode prog_8_method_23_code 66 = .ok (.bipush (-13), 2) := by decide +kernel
theorem nd_MO_take_68 : decode prog_8_method_23_code 68 = .ok (.ireturn, 1) := by decide +kernel
theorem nd_MO_take_69 : decode prog_8_method_23_code 69 = .ok (.iload_n 3, 1) := by decide +kernel
theorem nd_MO_take_70 : decode prog_8_method_23_code 70 = .ok (.aload_n 0, 1) := by decide +kernel
theorem nd_MO_take_71 : decode prog_8_method_23_code 71 = .ok (.getfield 17, 3) := by decide +kernel
theorem nd_MO_take_74 : decode prog_8_method_23_code 74 = .ok (.aload_n 0, 1) := by decide +kernel
theorem nd_MO_take_75 : decode prog_8_method_23_code 75 = .ok (.getfield 54, 3) := by decide +kernel
theorem nd_MO_take_78 : decode prog_8_method_23_code 78 = .ok (.iload_n 2, 1) := by decide +kernel
theorem nd_MO_take_79 : decode prog_8_method_23_code 79 = .ok (.iaload, 1) := by decide +kernel
theorem nd_MO_take_80 : decode prog_8_method_23_code 80 = .ok (.iaload, 1) := by decide +kernel
theorem nd_MO_take_81 : decode prog_8_method_23_code 81 = .ok (.if_icmp .eq 6, 3) := by decide +kernel
theorem nd_MO_take_84 : decode prog_8_method_23_code 84 = .ok (.bipush (-14), 2) := by decide +kernel
theorem nd_MO_take_86 : decode prog_8_method_23_code 86 = .ok (.ireturn, 1) := by decide +kernel
theorem nd_MO_take_87 : decode prog_8_method_23_code 87 = .ok (.aload_n 0, 1) := by decide +kernel
theorem nd_MO_take_88 : decode prog_8_method_23_code 88 = .ok (.iload_n 1, 1) := by decide +kernel
theorem nd_MO_take_89 : decode prog_8_method_23_code 89 = .ok (.invokevirtual 134, 3) := by decide +kernel
theorem nd_MO_take_92 : decode prog_8_method_23_code 92 = .ok (.iconst 1, 1) := by decide +kernel
theorem nd_MO_take_93 : decode prog_8_method_23_code 93 = .ok (.ireturn, 1) := by decide +kernel
theorem nd_MO_keyFor_0 : decode prog_8_method_22_code 0 = .ok (.iconst 0, 1) := by decide +kernel
theorem nd_MO_keyFor_1 : decode prog_8_method_22_code 1 = .ok (.istore 4, 2) := by decide +kernel
theorem nd_MO_keyFor_3 : decode prog_8_method_22_code 3 = .ok (.iload 4, 2) := by decide +kernel
theorem nd_MO_keyFor_5 : decode prog_8_method_22_code 5 = .ok (.aload_n 0, 1) := by decide +kernel
theorem nd_MO_keyFor_6 : decode prog_8_method_22_code 6 = .ok (.getfield 66, 3) := by decide +kernel
theorem nd_MO_keyFor_9 : decode prog_8_method_22_code 9 = .ok (.bipush 8, 2) := by decide +kernel
theorem nd_MO_keyFor_11 : decode prog_8_method_22_code 11 = .ok (.iaload, 1) := by decide +kernel
theorem nd_MO_keyFor_12 : decode prog_8_method_22_code 12 = .ok (.if_icmp .ge 65, 3) := by decide +kernel
theorem nd_MO_keyFor_15 : decode prog_8_method_22_code 15 = .ok (.bipush 9, 2) := by decide +kernel
theorem nd_MO_keyFor_17 : decode prog_8_method_22_code 17 = .ok (.iconst 3, 1) := by decide +kernel
theorem nd_MO_keyFor_18 : decode prog_8_method_22_code 18 = .ok (.iload 4, 2) := by decide +kernel
theorem nd_MO_keyFor_20 : decode prog_8_method_22_code 20 = .ok (.imul, 1) := by decide +kernel
theorem nd_MO_keyFor_21 : decode prog_8_method_22_code 21 = .ok (.iadd, 1) := by decide +kernel
theorem nd_MO_keyFor_22 : decode prog_8_method_22_code 22 = .ok (.istore 5, 2) := by decide +kernel
theorem nd_MO_keyFor_24 : decode prog_8_method_22_code 24 = .ok (.aload_n 0, 1) := by decide +kernel
theorem nd_MO_keyFor_25 : decode prog_8_method_22_code 25 = .ok (.getfield 66, 3) := by decide +kernel
theorem nd_MO_keyFor_28 : decode prog_8_method_22_code 28 = .ok (.iload 5, 2) := by decide +kernel
theorem nd_MO_keyFor_30 : decode prog_8_method_22_code 30 = .ok (.iaload, 1) := by decide +kernel
theorem nd_MO_keyFor_31 : decode prog_8_method_22_code 31 = .ok (.iload_n 1, 1) := by decide +kernel
theorem nd_MO_keyFor_32 : decode prog_8_method_22_code 32 = .ok (.if_icmp .ne 39, 3) := by decide +kernel
theorem nd_MO_keyFor_35 : decode prog_8_method_22_code 35 = .ok (.aload_n 0, 1) := by decide +kernel
theorem nd_MO_keyFor_36 : decode prog_8_method_22_code 36 = .ok (.getfield 66, 3) := by decide +kernel
theorem nd_MO_keyFor_39 : decode prog_8_method_22_code 39 = .ok (.iload 5, 2) := by decide +kernel
theorem nd_MO_keyFor_41 : decode prog_8_method_22_code 41 = .ok (.iconst 1, 1) := by decide +kernel
theorem nd_MO_keyFor_42 : decode prog_8_method_22_code 42 = .ok (.iadd, 1) := by decide +kernel
theorem nd_MO_keyFor_43 : decode prog_8_method_22_code 43 = .ok (.iaload, 1) := by decide +kernel
theorem nd_MO_keyFor_44 : decode prog_8_method_22_code 44 = .ok (.iload_n 2, 1) := by decide +kernel
theorem nd_MO_keyFor_45 : decode prog_8_method_22_code 45 = .ok (.if_icmp .eq 6, 3) := by decide +kernel
theorem nd_MO_keyFor_48 : decode prog_8_method_22_code 48 = .ok (.goto 23, 3) := by decide +kernel
theorem nd_MO_keyFor_51 : decode prog_8_method_22_code 51 = .ok (.aload_n 0, 1) := by decide +kernel
theorem nd_MO_keyFor_52 : decode prog_8_method_22_code 52 = .ok (.getfield 66, 3) := by decide +kernel
theorem nd_MO_keyFor_55 : decode prog_8_method_22_code 55 = .ok (.iload 5, 2) := by decide +kernel
theorem nd_MO_keyFor_57 : decode prog_8_method_22_code 57 = .ok (.iconst 2, 1) := by decide +kernel
theorem nd_MO_keyFor_58 : decode prog_8_method_22_code 58 = .ok (.iadd, 1) := by decide +kernel
theorem nd_MO_keyFor_59 : decode prog_8_method_22_code 59 = .ok (.iaload, 1) := by decide +kernel
theorem nd_MO_keyFor_60 : decode prog_8_method_22_code 60 = .ok (.istore 6, 2) := by decide +kernel
theorem nd_MO_keyFor_62 : decode prog_8_method_22_code 62 = .ok (.aload_n 0, 1) := by decide +kernel
theorem nd_MO_keyFor_63 : decode prog_8_method_22_code 63 = .ok (.iload 4, 2) := by decide +kernel
theorem nd_MO_keyFor_65 : decode prog_8_method_22_code 65 = .ok (.invokevirtual 137, 3) := by decide +kernel
theorem nd_MO_keyFor_68 : decode prog_8_method_22_code 68 = .ok (.iload 6, 2) := by decide +kernel
theorem nd_MO_keyFor_70 : decode prog_8_method_22_code 70 = .ok (.ireturn, 1) := by decide +kernel
theorem nd_MO_keyFor_71 : decode prog_8_method_22_code 71 = .ok (.iinc 4 1, 3) := by decide +kernel
theorem nd_MO_keyFor_74 : decode prog_8_method_22_code 74 = .ok (.goto (-71), 3) := by decide +kernel
theorem nd_MO_keyFor_77 : decode prog_8_method_22_code 77 = .ok (.iload_n 1, 1) := by decide +kernel
theorem nd_MO_keyFor_78 : decode prog_8_method_22_code 78 = .ok (.aload_n 0, 1) := by decide +kernel
theorem nd_MO_keyFor_79 : decode prog_8_method_22_code 79 = .ok (.getfield 66, 3) := by decide +kernel
theorem nd_MO_keyFor_82 : decode prog_8_method_22_code 82 = .ok (.iconst 2, 1) := by decide +kernel
theorem nd_MO_keyFor_83 : decode prog_8_method_22_code 83 = .ok (.iaload, 1) := by decide +kernel
theorem nd_MO_keyFor_84 : decode prog_8_method_22_code 84 = .ok (.if_icmp .ne 13, 3) := by decide +kernel
theorem nd_MO_keyFor_87 : decode prog_8_method_22_code 87 = .ok (.aload_n 0, 1) := by decide +kernel
theorem nd_MO_keyFor_88 : decode prog_8_method_22_code 88 = .ok (.getfield 66, 3) := by decide +kernel
theorem nd_MO_keyFor_91 : decode prog_8_method_22_code 91 = .ok (.bipush 6, 2) := by decide +kernel
theorem nd_MO_keyFor_93 : decode prog_8_method_22_code 93 = .ok (.iaload, 1) := by decide +kernel
theorem nd_MO_keyFor_94 : decode prog_8_method_22_code 94 = .ok (.ifCond .ne 113, 3) := by decide +kernel
theorem nd_MO_keyFor_97 : decode prog_8_method_22_code 97 = .ok (.aload_n 0, 1) := by decide +kernel
theorem nd_MO_keyFor_98 : decode prog_8_method_22_code 98 = .ok (.getfield 66, 3) := by decide +kernel
theorem nd_MO_keyFor_101 : decode prog_8_method_22_code 101 = .ok (.bipush 6, 2) := by decide +kernel
theorem nd_MO_keyFor_103 : decode prog_8_method_22_code 103 = .ok (.iaload, 1) := by decide +kernel
theorem nd_MO_keyFor_104 : decode prog_8_method_22_code 104 = .ok (.ifCond .eq 24, 3) := by decide +kernel
theorem nd_MO_keyFor_107 : decode prog_8_method_22_code 107 = .ok (.iload_n 3, 1) := by decide +kernel
theorem nd_MO_keyFor_108 : decode prog_8_method_22_code 108 = .ok (.aload_n 0, 1) := by decide +kernel
theorem nd_MO_keyFor_109 : decode prog_8_method_22_code 109 = .ok (.getfield 66, 3) := by decide +kernel
theorem nd_MO_keyFor_112 : decode prog_8_method_22_code 112 = .ok (.bipush 7, 2) := by decide +kernel
theorem nd_MO_keyFor_114 : decode prog_8_method_22_code 114 = .ok (.iaload, 1) := by decide +kernel
theorem nd_MO_keyFor_115 : decode prog_8_method_22_code 115 = .ok (.if_icmp .le 13, 3) := by decide +kernel
theorem nd_MO_keyFor_118 : decode prog_8_method_22_code 118 = .ok (.aload_n 0, 1) := by decide +kernel
theorem nd_MO_keyFor_119 : decode prog_8_method_22_code 119 = .ok (.iload_n 3, 1) := by decide +kernel
theorem nd_MO_keyFor_120 : decode prog_8_method_22_code 120 = .ok (.invokevirtual 143, 3) := by decide +kernel
theorem nd_MO_keyFor_123 : decode prog_8_method_22_code 123 = .ok (.ifCond .ne 5, 3) := by decide +kernel
theorem nd_MO_keyFor_126 : decode prog_8_method_22_code 126 = .ok (.iconst 0, 1) := by decide +kernel
theorem nd_MO_keyFor_127 : decode prog_8_method_22_code 127 = .ok (.ireturn, 1) := by decide +kernel
theorem nd_MO_keyFor_128 : decode prog_8_method_22_code 128 = .ok (.aload_n 0, 1) := by decide +kernel
theorem nd_MO_keyFor_129 : decode prog_8_method_22_code 129 = .ok (.aload_n 0, 1) := by decide +kernel
theorem nd_MO_keyFor_130 : decode prog_8_method_22_code 130 = .ok (.getfield 66, 3) := by decide +kernel
theorem nd_MO_keyFor_133 : decode prog_8_method_22_code 133 = .ok (.iconst 1, 1) := by decide +kernel
theorem nd_MO_keyFor_134 : decode prog_8_method_22_code 134 = .ok (.iaload, 1) := by decide +kernel
theorem nd_MO_keyFor_135 : decode prog_8_method_22_code 135 = .ok (.aload_n 0, 1) := by decide +kernel
theorem nd_MO_keyFor_136 : decode prog_8_method_22_code 136 = .ok (.getfield 17, 3) := by decide +kernel
theorem nd_MO_keyFor_139 : decode prog_8_method_22_code 139 = .ok (.iload_n 1, 1) := by decide +kernel
theorem nd_MO_keyFor_140 : decode prog_8_method_22_code 140 = .ok (.iaload, 1) := by decide +kernel
theorem nd_MO_keyFor_141 : decode prog_8_method_22_code 141 = .ok (.invokevirtual 80, 3) := by decide +kernel
theorem nd_MO_keyFor_144 : decode prog_8_method_22_code 144 = .ok (.istore 4, 2) := by decide +kernel
theorem nd_MO_keyFor_146 : decode prog_8_method_22_code 146 = .ok (.aload_n 0, 1) := by decide +kernel
theorem nd_MO_keyFor_147 : decode prog_8_method_22_code 147 = .ok (.getfield 66, 3) := by decide +kernel
theorem nd_MO_keyFor_150 : decode prog_8_method_22_code 150 = .ok (.bipush 6, 2) := by decide +kernel
theorem nd_MO_keyFor_152 : decode prog_8_method_22_code 152 = .ok (.aload_n 0, 1) := by decide +kernel
theorem nd_MO_keyFor_153 : decode prog_8_method_22_code 153 = .ok (.iconst 5, 1) := by decide +kernel
theorem nd_MO_keyFor_154 : decode prog_8_method_22_code 154 = .ok (.aload_n 0, 1) := by decide +kernel
theorem nd_MO_keyFor_155 : decode prog_8_method_22_code 155 = .ok (.getfield 66, 3) := by decide +kernel
theorem nd_MO_keyFor_158 : decode prog_8_method_22_code 158 = .ok (.iconst 0, 1) := by decide +kernel
theorem nd_MO_keyFor_159 : decode prog_8_method_22_code 159 = .ok (.iaload, 1) := by decide +kernel
theorem nd_MO_keyFor_160 : decode prog_8_method_22_code 160 = .ok (.iload 4, 2) := by decide +kernel
theorem nd_MO_keyFor_162 : decode prog_8_method_22_code 162 = .ok (.invokevirtual 84, 3) := by decide +kernel
theorem nd_MO_keyFor_165 : decode prog_8_method_22_code 165 = .ok (.iastore, 1) := by decide +kernel
theorem nd_MO_keyFor_166 : decode prog_8_method_22_code 166 = .ok (.aload_n 0, 1) := by decide +kernel
theorem nd_MO_keyFor_167 : decode prog_8_method_22_code 167 = .ok (.getfield 66, 3) := by decide +kernel
theorem nd_MO_keyFor_170 : decode prog_8_method_22_code 170 = .ok (.iconst 0, 1) := by decide +kernel
theorem nd_MO_keyFor_171 : decode prog_8_method_22_code 171 = .ok (.aload_n 0, 1) := by decide +kernel
theorem nd_MO_keyFor_172 : decode prog_8_method_22_code 172 = .ok (.iconst 4, 1) := by decide +kernel
theorem nd_MO_keyFor_173 : decode prog_8_method_22_code 173 = .ok (.aload_n 0, 1) := by decide +kernel
theorem nd_MO_keyFor_174 : decode prog_8_method_22_code 174 = .ok (.getfield 66, 3) := by decide +kernel
theorem nd_MO_keyFor_177 : decode prog_8_method_22_code 177 = .ok (.iconst 0, 1) := by decide +kernel
theorem nd_MO_keyFor_178 : decode prog_8_method_22_code 178 = .ok (.iaload, 1) := by decide +kernel
theorem nd_MO_keyFor_179 : decode prog_8_method_22_code 179 = .ok (.iload 4, 2) := by decide +kernel
theorem nd_MO_keyFor_181 : decode prog_8_method_22_code 181 = .ok (.invokevirtual 84, 3) := by decide +kernel
theorem nd_MO_keyFor_184 : decode prog_8_method_22_code 184 = .ok (.iastore, 1) := by decide +kernel
theorem nd_MO_keyFor_185 : decode prog_8_method_22_code 185 = .ok (.aload_n 0, 1) := by decide +kernel
theorem nd_MO_keyFor_186 : decode prog_8_method_22_code 186 = .ok (.getfield 66, 3) := by decide +kernel
theorem nd_MO_keyFor_189 : decode prog_8_method_22_code 189 = .ok (.iconst 2, 1) := by decide +kernel
theorem nd_MO_keyFor_190 : decode prog_8_method_22_code 190 = .ok (.iload_n 1, 1) := by decide +kernel
theorem nd_MO_keyFor_191 : decode prog_8_method_22_code 191 = .ok (.iastore, 1) := by decide +kernel
theorem nd_MO_keyFor_192 : decode prog_8_method_22_code 192 = .ok (.aload_n 0, 1) := by decide +kernel
theorem nd_MO_keyFor_193 : decode prog_8_method_22_code 193 = .ok (.getfield 66, 3) := by decide +kernel
theorem nd_MO_keyFor_196 : decode prog_8_method_22_code 196 = .ok (.bipush 7, 2) := by decide +kernel
theorem nd_MO_keyFor_198 : decode prog_8_method_22_code 198 = .ok (.iconst 0, 1) := by decide +kernel
theorem nd_MO_keyFor_199 : decode prog_8_method_22_code 199 = .ok (.iastore, 1) := by decide +kernel
theorem nd_MO_keyFor_200 : decode prog_8_method_22_code 200 = .ok (.aload_n 0, 1) := by decide +kernel
theorem nd_MO_keyFor_201 : decode prog_8_method_22_code 201 = .ok (.getfield 66, 3) := by decide +kernel
theorem nd_MO_keyFor_204 : decode prog_8_method_22_code 204 = .ok (.iconst 3, 1) := by decide +kernel
theorem nd_MO_keyFor_205 : decode prog_8_method_22_code 205 = .ok (.iconst 0, 1) := by decide +kernel
theorem nd_MO_keyFor_206 : decode prog_8_method_22_code 206 = .ok (.iastore, 1) := by decide +kernel
theorem nd_MO_keyFor_207 : decode prog_8_method_22_code 207 = .ok (.iload_n 2, 1) := by decide +kernel
theorem nd_MO_keyFor_208 : decode prog_8_method_22_code 208 = .ok (.aload_n 0, 1) := by decide +kernel
theorem nd_MO_keyFor_209 : decode prog_8_method_22_code 209 = .ok (.getfield 66, 3) := by decide +kernel
theorem nd_MO_keyFor_212 : decode prog_8_method_22_code 212 = .ok (.bipush 7, 2) := by decide +kernel
theorem nd_MO_keyFor_214 : decode prog_8_method_22_code 214 = .ok (.iaload, 1) := by decide +kernel
theorem nd_MO_keyFor_215 : decode prog_8_method_22_code 215 = .ok (.if_icmp .lt 11, 3) := by decide +kernel
theorem nd_MO_keyFor_218 : decode prog_8_method_22_code 218 = .ok (.aload_n 0, 1) := by decide +kernel
theorem nd_MO_keyFor_219 : decode prog_8_method_22_code 219 = .ok (.iload_n 2, 1) := by decide +kernel
theorem nd_MO_keyFor_220 : decode prog_8_method_22_code 220 = .ok (.invokevirtual 143, 3) := by decide +kernel
theorem nd_MO_keyFor_223 : decode prog_8_method_22_code 223 = .ok (.ifCond .ne 5, 3) := by decide +kernel
theorem nd_MO_keyFor_226 : decode prog_8_method_22_code 226 = .ok (.iconst 0, 1) := by decide +kernel
theorem nd_MO_keyFor_227 : decode prog_8_method_22_code 227 = .ok (.ireturn, 1) := by decide +kernel
theorem nd_MO_keyFor_228 : decode prog_8_method_22_code 228 = .ok (.aload_n 0, 1) := by decide +kernel
theorem nd_MO_keyFor_229 : decode prog_8_method_22_code 229 = .ok (.bipush 6, 2) := by decide +kernel
theorem nd_MO_keyFor_231 : decode prog_8_method_22_code 231 = .ok (.aload_n 0, 1) := by decide +kernel
theorem nd_MO_keyFor_232 : decode prog_8_method_22_code 232 = .ok (.getfield 66, 3) := by decide +kernel
theorem nd_MO_keyFor_235 : decode prog_8_method_22_code 235 = .ok (.bipush 6, 2) := by decide +kernel
theorem nd_MO_keyFor_237 : decode prog_8_method_22_code 237 = .ok (.iaload, 1) := by decide +kernel
theorem nd_MO_keyFor_238 : decode prog_8_method_22_code 238 = .ok (.iconst 0, 1) := by decide +kernel
theorem nd_MO_keyFor_239 : decode prog_8_method_22_code 239 = .ok (.invokevirtual 84, 3) := by decide +kernel
theorem nd_MO_keyFor_242 : decode prog_8_method_22_code 242 = .ok (.istore 4, 2) := by decide +kernel
theorem nd_MO_keyFor_244 : decode prog_8_method_22_code 244 = .ok (.aload_n 0, 1) := by decide +kernel
theorem nd_MO_keyFor_245 : decode prog_8_method_22_code 245 = .ok (.invokevirtual 140, 3) := by decide +kernel
theorem nd_MO_keyFor_248 : decode prog_8_method_22_code 248 = .ok (.iload 4, 2) := by decide +kernel
theorem nd_MO_keyFor_250 : decode prog_8_method_22_code 250 = .ok (.ireturn, 1) := by decide +kernel
theorem nd_MO_dropLeft_0 : decode prog_8_method_21_code 0 = .ok (.bipush 9, 2) := by decide +kernel
theorem nd_MO_dropLeft_2 : decode prog_8_method_21_code 2 = .ok (.iconst 3, 1) := by decide +kernel
theorem nd_MO_dropLeft_3 : decode prog_8_method_21_code 3 = .ok (.iload_n 1, 1) := by decide +kernel
theorem nd_MO_dropLeft_4 : decode prog_8_method_21_code 4 = .ok (.imul, 1) := by decide +kernel
theorem nd_MO_dropLeft_5 : decode prog_8_method_21_code 5 = .ok (.iadd, 1) := by decide +kernel
theorem nd_MO_dropLeft_6 : decode prog_8_method_21_code 6 = .ok (.istore_n 2, 1) := by decide +kernel
theorem nd_MO_dropLeft_7 : decode prog_8_method_21_code 7 = .ok (.iload_n 2, 1) := by decide +kernel
theorem nd_MO_dropLeft_8 : decode prog_8_method_21_code 8 = .ok (.iconst 3, 1) := by decide +kernel
theorem nd_MO_dropLeft_9 : decode prog_8_method_21_code 9 = .ok (.iadd, 1) := by decide +kernel
theorem nd_MO_dropLeft_10 : decode prog_8_method_21_code 10 = .ok (.bipush 33, 2) := by decide +kernel
theorem nd_MO_dropLeft_12 : decode prog_8_method_21_code 12 = .ok (.if_icmp .ge 23, 3) := by decide +kernel
theorem nd_MO_dropLeft_15 : decode prog_8_method_21_code 15 = .ok (.aload_n 0, 1) := by decide +kernel
theorem nd_MO_dropLeft_16 : decode prog_8_method_21_code 16 = .ok (.getfield 66, 3) := by decide +kernel
theorem nd_MO_dropLeft_19 : decode prog_8_method_21_code 19 = .ok (.iload_n 2, 1) := by decide +kernel
theorem nd_MO_dropLeft_20 : decode prog_8_method_21_code 20 = .ok (.aload_n 0, 1) := by decide +kernel
theorem nd_MO_dropLeft_21 : decode prog_8_method_21_code 21 = .ok (.getfield 66, 3) := by decide +kernel
theorem nd_MO_dropLeft_24 : decode prog_8_method_21_code 24 = .ok (.iload_n 2, 1) := by decide +kernel
theorem nd_MO_dropLeft_25 : decode prog_8_method_21_code 25 = .ok (.iconst 3, 1) := by decide +kernel
theorem nd_MO_dropLeft_26 : decode prog_8_method_21_code 26 = .ok (.iadd, 1) := by decide +kernel
theorem nd_MO_dropLeft_27 : decode prog_8_method_21_code 27 = .ok (.iaload, 1) := by decide +kernel
theorem nd_MO_dropLeft_28 : decode prog_8_method_21_code 28 = .ok (.iastore, 1) := by decide +kernel
theorem nd_MO_dropLeft_29 : decode prog_8_method_21_code 29 = .ok (.iinc 2 1, 3) := by decide +kernel
theorem nd_MO_dropLeft_32 : decode prog_8_method_21_code 32 = .ok (.goto (-25), 3) := by decide +kernel
theorem nd_MO_dropLeft_35 : decode prog_8_method_21_code 35 = .ok (.aload_n 0, 1) := by decide +kernel
theorem nd_MO_dropLeft_36 : decode prog_8_method_21_code 36 = .ok (.getfield 66, 3) := by decide +kernel
theorem nd_MO_dropLeft_39 : decode prog_8_method_21_code 39 = .ok (.bipush 8, 2) := by decide +kernel
theorem nd_MO_dropLeft_41 : decode prog_8_method_21_code 41 = .ok (.dup2, 1) := by decide +kernel
theorem nd_MO_dropLeft_42 : decode prog_8_method_21_code 42 = .ok (.iaload, 1) := by decide +kernel
theorem nd_MO_dropLeft_43 : decode prog_8_method_21_code 43 = .ok (.iconst 1, 1) := by decide +kernel
theorem nd_MO_dropLeft_44 : decode prog_8_method_21_code 44 = .ok (.isub, 1) := by decide +kernel
theorem nd_MO_dropLeft_45 : decode prog_8_method_21_code 45 = .ok (.iastore, 1) := by decide +kernel
theorem nd_MO_dropLeft_46 : decode prog_8_method_21_code 46 = .ok (.bipush 9, 2) := by decide +kernel
theorem nd_MO_dropLeft_48 : decode prog_8_method_21_code 48 = .ok (.iconst 3, 1) := by decide +kernel
theorem nd_MO_dropLeft_49 : decode prog_8_method_21_code 49 = .ok (.aload_n 0, 1) := by decide +kernel
theorem nd_MO_dropLeft_50 : decode prog_8_method_21_code 50 = .ok (.getfield 66, 3) := by decide +kernel
theorem nd_MO_dropLeft_53 : decode prog_8_method_21_code 53 = .ok (.bipush 8, 2) := by decide +kernel
theorem nd_MO_dropLeft_55 : decode prog_8_method_21_code 55 = .ok (.iaload, 1) := by decide +kernel
theorem nd_MO_dropLeft_56 : decode prog_8_method_21_code 56 = .ok (.imul, 1) := by decide +kernel
theorem nd_MO_dropLeft_57 : decode prog_8_method_21_code 57 = .ok (.iadd, 1) := by decide +kernel
theorem nd_MO_dropLeft_58 : decode prog_8_method_21_code 58 = .ok (.istore_n 2, 1) := by decide +kernel
theorem nd_MO_dropLeft_59 : decode prog_8_method_21_code 59 = .ok (.iload_n 2, 1) := by decide +kernel
theorem nd_MO_dropLeft_60 : decode prog_8_method_21_code 60 = .ok (.bipush 33, 2) := by decide +kernel
theorem nd_MO_dropLeft_62 : decode prog_8_method_21_code 62 = .ok (.if_icmp .ge 16, 3) := by decide +kernel
theorem nd_MO_dropLeft_65 : decode prog_8_method_21_code 65 = .ok (.aload_n 0, 1) := by decide +kernel
theorem nd_MO_dropLeft_66 : decode prog_8_method_21_code 66 = .ok (.getfield 66, 3) := by decide +kernel
theorem nd_MO_dropLeft_69 : decode prog_8_method_21_code 69 = .ok (.iload_n 2, 1) := by decide +kernel
theorem nd_MO_dropLeft_70 : decode prog_8_method_21_code 70 = .ok (.iconst 0, 1) := by decide +kernel
theorem nd_MO_dropLeft_71 : decode prog_8_method_21_code 71 = .ok (.iastore, 1) := by decide +kernel
theorem nd_MO_dropLeft_72 : decode prog_8_method_21_code 72 = .ok (.iinc 2 1, 3) := by decide +kernel
theorem nd_MO_dropLeft_75 : decode prog_8_method_21_code 75 = .ok (.goto (-16), 3) := by decide +kernel
theorem nd_MO_dropLeft_78 : decode prog_8_method_21_code 78 = .ok (.return_, 1) := by decide +kernel
theorem nd_MO_skip_0 : decode prog_8_method_20_code 0 = .ok (.iload_n 1, 1) := by decide +kernel
theorem nd_MO_skip_1 : decode prog_8_method_20_code 1 = .ok (.aload_n 0, 1) := by decide +kernel
theorem nd_MO_skip_2 : decode prog_8_method_20_code 2 = .ok (.getfield 66, 3) := by decide +kernel
theorem nd_MO_skip_5 : decode prog_8_method_20_code 5 = .ok (.bipush 7, 2) := by decide +kernel
theorem nd_MO_skip_7 : decode prog_8_method_20_code 7 = .ok (.iaload, 1) := by decide +kernel
theorem nd_MO_skip_8 : decode prog_8_method_20_code 8 = .ok (.iconst 5, 1) := by decide +kernel
theorem nd_MO_skip_9 : decode prog_8_method_20_code 9 = .ok (.iadd, 1) := by decide +kernel
theorem nd_MO_skip_10 : decode prog_8_method_20_code 10 = .ok (.if_icmp .le 5, 3) := by decide +kernel
theorem nd_MO_skip_13 : decode prog_8_method_20_code 13 = .ok (.iconst 0, 1) := by decide +kernel
theorem nd_MO_skip_14 : decode prog_8_method_20_code 14 = .ok (.ireturn, 1) := by decide +kernel
theorem nd_MO_skip_15 : decode prog_8_method_20_code 15 = .ok (.aload_n 0, 1) := by decide +kernel
theorem nd_MO_skip_16 : decode prog_8_method_20_code 16 = .ok (.getfield 66, 3) := by decide +kernel
theorem nd_MO_skip_19 : decode prog_8_method_20_code 19 = .ok (.bipush 7, 2) := by decide +kernel
theorem nd_MO_skip_21 : decode prog_8_method_20_code 21 = .ok (.iaload, 1) := by decide +kernel
theorem nd_MO_skip_22 : decode prog_8_method_20_code 22 = .ok (.iload_n 1, 1) := by decide +kernel
theorem nd_MO_skip_23 : decode prog_8_method_20_code 23 = .ok (.if_icmp .ge 100, 3) := by decide +kernel
theorem nd_MO_skip_26 : decode prog_8_method_20_code 26 = .ok (.aload_n 0, 1) := by decide +kernel
theorem nd_MO_skip_27 : decode prog_8_method_20_code 27 = .ok (.getfield 66, 3) := by decide +kernel
theorem nd_MO_skip_30 : decode prog_8_method_20_code 30 = .ok (.bipush 8, 2) := by decide +kernel
theorem nd_MO_skip_32 : decode prog_8_method_20_code 32 = .ok (.iaload, 1) := by decide +kernel
theorem nd_MO_skip_33 : decode prog_8_method_20_code 33 = .ok (.bipush 8, 2) := by decide +kernel
theorem nd_MO_skip_35 : decode prog_8_method_20_code 35 = .ok (.if_icmp .ne 8, 3) := by decide +kernel
theorem nd_MO_skip_38 : decode prog_8_method_20_code 38 = .ok (.aload_n 0, 1) := by decide +kernel
theorem nd_MO_skip_39 : decode prog_8_method_20_code 39 = .ok (.iconst 0, 1) := by decide +kernel
theorem nd_MO_skip_40 : decode prog_8_method_20_code 40 = .ok (.invokevirtual 137, 3) := by decide +kernel
theorem nd_MO_skip_43 : decode prog_8_method_20_code 43 = .ok (.bipush 9, 2) := by decide +kernel
theorem nd_MO_skip_45 : decode prog_8_method_20_code 45 = .ok (.iconst 3, 1) := by decide +kernel
theorem nd_MO_skip_46 : decode prog_8_method_20_code 46 = .ok (.aload_n 0, 1) := by decide +kernel
theorem nd_MO_skip_47 : decode prog_8_method_20_code 47 = .ok (.getfield 66, 3) := by decide +kernel
theorem nd_MO_skip_50 : decode prog_8_method_20_code 50 = .ok (.bipush 8, 2) := by decide +kernel
theorem nd_MO_skip_52 : decode prog_8_method_20_code 52 = .ok (.iaload, 1) := by decide +kernel
theorem nd_MO_skip_53 : decode prog_8_method_20_code 53 = .ok (.imul, 1) := by decide +kernel
theorem nd_MO_skip_54 : decode prog_8_method_20_code 54 = .ok (.iadd, 1) := by decide +kernel
theorem nd_MO_skip_55 : decode prog_8_method_20_code 55 = .ok (.istore_n 2, 1) := by decide +kernel
theorem nd_MO_skip_56 : decode prog_8_method_20_code 56 = .ok (.aload_n 0, 1) := by decide +kernel
theorem nd_MO_skip_57 : decode prog_8_method_20_code 57 = .ok (.getfield 66, 3) := by decide +kernel
theorem nd_MO_skip_60 : decode prog_8_method_20_code 60 = .ok (.iload_n 2, 1) := by decide +kernel
theorem nd_MO_skip_61 : decode prog_8_method_20_code 61 = .ok (.aload_n 0, 1) := by decide +kernel
theorem nd_MO_skip_62 : decode prog_8_method_20_code 62 = .ok (.getfield 66, 3) := by decide +kernel
theorem nd_MO_skip_65 : decode prog_8_method_20_code 65 = .ok (.iconst 2, 1) := by decide +kernel
theorem nd_MO_skip_66 : decode prog_8_method_20_code 66 = .ok (.iaload, 1) := by decide +kernel
theorem nd_MO_skip_67 : decode prog_8_method_20_code 67 = .ok (.iastore, 1) := by decide +kernel
theorem nd_MO_skip_68 : decode prog_8_method_20_code 68 = .ok (.aload_n 0, 1) := by decide +kernel
theorem nd_MO_skip_69 : decode prog_8_method_20_code 69 = .ok (.getfield 66, 3) := by decide +kernel
theorem nd_MO_skip_72 : decode prog_8_method_20_code 72 = .ok (.iload_n 2, 1) := by decide +kernel
theorem nd_MO_skip_73 : decode prog_8_method_20_code 73 = .ok (.iconst 1, 1) := by decide +kernel
theorem nd_MO_skip_74 : decode prog_8_method_20_code 74 = .ok (.iadd, 1) := by decide +kernel
theorem nd_MO_skip_75 : decode prog_8_method_20_code 75 = .ok (.aload_n 0, 1) := by decide +kernel
theorem nd_MO_skip_76 : decode prog_8_method_20_code 76 = .ok (.getfield 66, 3) := by decide +kernel
theorem nd_MO_skip_79 : decode prog_8_method_20_code 79 = .ok (.bipush 7, 2) := by decide +kernel
theorem nd_MO_skip_81 : decode prog_8_method_20_code 81 = .ok (.iaload, 1) := by decide +kernel
theorem nd_MO_skip_82 : decode prog_8_method_20_code 82 = .ok (.iastore, 1) := by decide +kernel
theorem nd_MO_skip_83 : decode prog_8_method_20_code 83 = .ok (.aload_n 0, 1) := by decide +kernel
theorem nd_MO_skip_84 : decode prog_8_method_20_code 84 = .ok (.getfield 66, 3) := by decide +kernel
theorem nd_MO_skip_87 : decode prog_8_method_20_code 87 = .ok (.iload_n 2, 1) := by decide +kernel
theorem nd_MO_skip_88 : decode prog_8_method_20_code 88 = .ok (.iconst 2, 1) := by decide +kernel
theorem nd_MO_skip_89 : decode prog_8_method_20_code 89 = .ok (.iadd, 1) := by decide +kernel
theorem nd_MO_skip_90 : decode prog_8_method_20_code 90 = .ok (.aload_n 0, 1) := by decide +kernel
theorem nd_MO_skip_91 : decode prog_8_method_20_code 91 = .ok (.bipush 6, 2) := by decide +kernel
theorem nd_MO_skip_93 : decode prog_8_method_20_code 93 = .ok (.aload_n 0, 1) := by decide +kernel
theorem nd_MO_skip_94 : decode prog_8_method_20_code 94 = .ok (.getfield 66, 3) := by decide +kernel
theorem nd_MO_skip_97 : decode prog_8_method_20_code 97 = .ok (.bipush 6, 2) := by decide +kernel
theorem nd_MO_skip_99 : decode prog_8_method_20_code 99 = .ok (.iaload, 1) := by decide +kernel
theorem nd_MO_skip_100 : decode prog_8_method_20_code 100 = .ok (.iconst 0, 1) := by decide +kernel
theorem nd_MO_skip_101 : decode prog_8_method_20_code 101 = .ok (.invokevirtual 84, 3) := by decide +kernel
theorem nd_MO_skip_104 : decode prog_8_method_20_code 104 = .ok (.iastore, 1) := by decide +kernel
theorem nd_MO_skip_105 : decode prog_8_method_20_code 105 = .ok (.aload_n 0, 1) := by decide +kernel
theorem nd_MO_skip_106 : decode prog_8_method_20_code 106 = .ok (.getfield 66, 3) := by decide +kernel
theorem nd_MO_skip_109 : decode prog_8_method_20_code 109 = .ok (.bipush 8, 2) := by decide +kernel
theorem nd_MO_skip_111 : decode prog_8_method_20_code 111 = .ok (.dup2, 1) := by decide +kernel
theorem nd_MO_skip_112 : decode prog_8_method_20_code 112 = .ok (.iaload, 1) := by decide +kernel
theorem nd_MO_skip_113 : decode prog_8_method_20_code 113 = .ok (.iconst 1, 1) := by decide +kernel
theorem nd_MO_skip_114 : decode prog_8_method_20_code 114 = .ok (.iadd, 1) := by decide +kernel
theorem nd_MO_skip_115 : decode prog_8_method_20_code 115 = .ok (.iastore, 1) := by decide +kernel
theorem nd_MO_skip_116 : decode prog_8_method_20_code 116 = .ok (.aload_n 0, 1) := by decide +kernel
theorem nd_MO_skip_117 : decode prog_8_method_20_code 117 = .ok (.invokevirtual 140, 3) := by decide +kernel
theorem nd_MO_skip_120 : decode prog_8_method_20_code 120 = .ok (.goto (-105), 3) := by decide +kernel
theorem nd_MO_skip_123 : decode prog_8_method_20_code 123 = .ok (.iconst 1, 1) := by decide +kernel
theorem nd_MO_skip_124 : decode prog_8_method_20_code 124 = .ok (.ireturn, 1) := by decide +kernel
theorem nd_MO_stepOn_0 : decode prog_8_method_19_code 0 = .ok (.aload_n 0, 1) := by decide +kernel
theorem nd_MO_stepOn_1 : decode prog_8_method_19_code 1 = .ok (.getfield 66, 3) := by decide +kernel
theorem nd_MO_stepOn_4 : decode prog_8_method_19_code 4 = .ok (.bipush 6, 2) := by decide +kernel
theorem nd_MO_stepOn_6 : decode prog_8_method_19_code 6 = .ok (.aload_n 0, 1) := by decide +kernel
theorem nd_MO_stepOn_7 : decode prog_8_method_19_code 7 = .ok (.bipush 7, 2) := by decide +kernel
theorem nd_MO_stepOn_9 : decode prog_8_method_19_code 9 = .ok (.aload_n 0, 1) := by decide +kernel
theorem nd_MO_stepOn_10 : decode prog_8_method_19_code 10 = .ok (.getfield 66, 3) := by decide +kernel
theorem nd_MO_stepOn_13 : decode prog_8_method_19_code 13 = .ok (.bipush 6, 2) := by decide +kernel
theorem nd_MO_stepOn_15 : decode prog_8_method_19_code 15 = .ok (.iaload, 1) := by decide +kernel
theorem nd_MO_stepOn_16 : decode prog_8_method_19_code 16 = .ok (.iconst 0, 1) := by decide +kernel
theorem nd_MO_stepOn_17 : decode prog_8_method_19_code 17 = .ok (.invokevirtual 84, 3) := by decide +kernel
theorem nd_MO_stepOn_20 : decode prog_8_method_19_code 20 = .ok (.iastore, 1) := by decide +kernel
theorem nd_MO_stepOn_21 : decode prog_8_method_19_code 21 = .ok (.aload_n 0, 1) := by decide +kernel
theorem nd_MO_stepOn_22 : decode prog_8_method_19_code 22 = .ok (.getfield 66, 3) := by decide +kernel
theorem nd_MO_stepOn_25 : decode prog_8_method_19_code 25 = .ok (.bipush 7, 2) := by decide +kernel
theorem nd_MO_stepOn_27 : decode prog_8_method_19_code 27 = .ok (.dup2, 1) := by decide +kernel
theorem nd_MO_stepOn_28 : decode prog_8_method_19_code 28 = .ok (.iaload, 1) := by decide +kernel
theorem nd_MO_stepOn_29 : decode prog_8_method_19_code 29 = .ok (.iconst 1, 1) := by decide +kernel
theorem nd_MO_stepOn_30 : decode prog_8_method_19_code 30 = .ok (.iadd, 1) := by decide +kernel
theorem nd_MO_stepOn_31 : decode prog_8_method_19_code 31 = .ok (.iastore, 1) := by decide +kernel
theorem nd_MO_stepOn_32 : decode prog_8_method_19_code 32 = .ok (.return_, 1) := by decide +kernel
theorem nd_MO_look_0 : decode prog_8_method_25_code 0 = .ok (.iload_n 1, 1) := by decide +kernel
theorem nd_MO_look_1 : decode prog_8_method_25_code 1 = .ok (.invokestatic 115, 3) := by decide +kernel
theorem nd_MO_look_4 : decode prog_8_method_25_code 4 = .ok (.ifCond .ne 5, 3) := by decide +kernel
theorem nd_MO_look_7 : decode prog_8_method_25_code 7 = .ok (.iconst (-1), 1) := by decide +kernel
theorem nd_MO_look_8 : decode prog_8_method_25_code 8 = .ok (.ireturn, 1) := by decide +kernel
theorem nd_MO_look_9 : decode prog_8_method_25_code 9 = .ok (.aload_n 0, 1) := by decide +kernel
theorem nd_MO_look_10 : decode prog_8_method_25_code 10 = .ok (.iload_n 1, 1) := by decide +kernel
theorem nd_MO_look_11 : decode prog_8_method_25_code 11 = .ok (.invokevirtual 118, 3) := by decide +kernel
theorem nd_MO_look_14 : decode prog_8_method_25_code 14 = .ok (.aload_n 0, 1) := by decide +kernel
theorem nd_MO_look_15 : decode prog_8_method_25_code 15 = .ok (.iconst 0, 1) := by decide +kernel
theorem nd_MO_look_16 : decode prog_8_method_25_code 16 = .ok (.putfield 149, 3) := by decide +kernel
theorem nd_MO_look_19 : decode prog_8_method_25_code 19 = .ok (.aload_n 0, 1) := by decide +kernel
theorem nd_MO_look_20 : decode prog_8_method_25_code 20 = .ok (.aload_n 0, 1) := by decide +kernel
theorem nd_MO_look_21 : decode prog_8_method_25_code 21 = .ok (.getfield 77, 3) := by decide +kernel
theorem nd_MO_look_24 : decode prog_8_method_25_code 24 = .ok (.invokevirtual 152, 3) := by decide +kernel
theorem nd_MO_look_27 : decode prog_8_method_25_code 27 = .ok (.aload_n 0, 1) := by decide +kernel
theorem nd_MO_look_28 : decode prog_8_method_25_code 28 = .ok (.aload_n 0, 1) := by decide +kernel
theorem nd_MO_look_29 : decode prog_8_method_25_code 29 = .ok (.getfield 66, 3) := by decide +kernel
theorem nd_MO_look_32 : decode prog_8_method_25_code 32 = .ok (.iconst 0, 1) := by decide +kernel
theorem nd_MO_look_33 : decode prog_8_method_25_code 33 = .ok (.iaload, 1) := by decide +kernel
theorem nd_MO_look_34 : decode prog_8_method_25_code 34 = .ok (.invokevirtual 152, 3) := by decide +kernel
theorem nd_MO_look_37 : decode prog_8_method_25_code 37 = .ok (.aload_n 0, 1) := by decide +kernel
theorem nd_MO_look_38 : decode prog_8_method_25_code 38 = .ok (.aload_n 0, 1) := by decide +kernel
theorem nd_MO_look_39 : decode prog_8_method_25_code 39 = .ok (.getfield 66, 3) := by decide +kernel
theorem nd_MO_look_42 : decode prog_8_method_25_code 42 = .ok (.iconst 1, 1) := by decide +kernel
theorem nd_MO_look_43 : decode prog_8_method_25_code 43 = .ok (.iaload, 1) := by decide +kernel
theorem nd_MO_look_44 : decode prog_8_method_25_code 44 = .ok (.invokevirtual 152, 3) := by decide +kernel
theorem nd_MO_look_47 : decode prog_8_method_25_code 47 = .ok (.aload_n 0, 1) := by decide +kernel
theorem nd_MO_look_48 : decode prog_8_method_25_code 48 = .ok (.aload_n 0, 1) := by decide +kernel
theorem nd_MO_look_49 : decode prog_8_method_25_code 49 = .ok (.getfield 66, 3) := by decide +kernel
theorem nd_MO_look_52 : decode prog_8_method_25_code 52 = .ok (.iconst 2, 1) := by decide +kernel
theorem nd_MO_look_53 : decode prog_8_method_25_code 53 = .ok (.iaload, 1) := by decide +kernel
theorem nd_MO_look_54 : decode prog_8_method_25_code 54 = .ok (.invokevirtual 152, 3) := by decide +kernel
theorem nd_MO_look_57 : decode prog_8_method_25_code 57 = .ok (.aload_n 0, 1) := by decide +kernel
theorem nd_MO_look_58 : decode prog_8_method_25_code 58 = .ok (.aload_n 0, 1) := by decide +kernel
theorem nd_MO_look_59 : decode prog_8_method_25_code 59 = .ok (.getfield 66, 3) := by decide +kernel
theorem nd_MO_look_62 : decode prog_8_method_25_code 62 = .ok (.iconst 3, 1) := by decide +kernel
theorem nd_MO_look_63 : decode prog_8_method_25_code 63 = .ok (.iaload, 1) := by decide +kernel
theorem nd_MO_look_64 : decode prog_8_method_25_code 64 = .ok (.invokevirtual 152, 3) := by decide +kernel
theorem nd_MO_look_67 : decode prog_8_method_25_code 67 = .ok (.aload_n 0, 1) := by decide +kernel
theorem nd_MO_look_68 : decode prog_8_method_25_code 68 = .ok (.aload_n 0, 1) := by decide +kernel
theorem nd_MO_look_69 : decode prog_8_method_25_code 69 = .ok (.getfield 66, 3) := by decide +kernel
theorem nd_MO_look_72 : decode prog_8_method_25_code 72 = .ok (.bipush 6, 2) := by decide +kernel
theorem nd_MO_look_74 : decode prog_8_method_25_code 74 = .ok (.iaload, 1) := by decide +kernel
theorem nd_MO_look_75 : decode prog_8_method_25_code 75 = .ok (.invokevirtual 152, 3) := by decide +kernel
theorem nd_MO_look_78 : decode prog_8_method_25_code 78 = .ok (.iconst 0, 1) := by decide +kernel
theorem nd_MO_look_79 : decode prog_8_method_25_code 79 = .ok (.istore_n 2, 1) := by decide +kernel
theorem nd_MO_look_80 : decode prog_8_method_25_code 80 = .ok (.iload_n 2, 1) := by decide +kernel
theorem nd_MO_look_81 : decode prog_8_method_25_code 81 = .ok (.aload_n 0, 1) := by decide +kernel
theorem nd_MO_look_82 : decode prog_8_method_25_code 82 = .ok (.getfield 66, 3) := by decide +kernel
theorem nd_MO_look_85 : decode prog_8_method_25_code 85 = .ok (.bipush 8, 2) := by decide +kernel
theorem nd_MO_look_87 : decode prog_8_method_25_code 87 = .ok (.iaload, 1) := by decide +kernel
theorem nd_MO_look_88 : decode prog_8_method_25_code 88 = .ok (.if_icmp .ge 41, 3) := by decide +kernel
theorem nd_MO_look_91 : decode prog_8_method_25_code 91 = .ok (.aload_n 0, 1) := by decide +kernel
theorem nd_MO_look_92 : decode prog_8_method_25_code 92 = .ok (.aload_n 0, 1) := by decide +kernel
theorem nd_MO_look_93 : decode prog_8_method_25_code 93 = .ok (.getfield 66, 3) := by decide +kernel
theorem nd_MO_look_96 : decode prog_8_method_25_code 96 = .ok (.bipush 9, 2) := by decide +kernel
theorem nd_MO_look_98 : decode prog_8_method_25_code 98 = .ok (.iconst 3, 1) := by decide +kernel
theorem nd_MO_look_99 : decode prog_8_method_25_code 99 = .ok (.iload_n 2, 1) := by decide +kernel
theorem nd_MO_look_100 : decode prog_8_method_25_code 100 = .ok (.imul, 1) := by decide +kernel
theorem nd_MO_look_101 : decode prog_8_method_25_code 101 = .ok (.iadd, 1) := by decide +kernel
theorem nd_MO_look_102 : decode prog_8_method_25_code 102 = .ok (.iaload, 1) := by decide +kernel
theorem nd_MO_look_103 : decode prog_8_method_25_code 103 = .ok (.invokevirtual 152, 3) := by decide +kernel
theorem nd_MO_look_106 : decode prog_8_method_25_code 106 = .ok (.aload_n 0, 1) := by decide +kernel
theorem nd_MO_look_107 : decode prog_8_method_25_code 107 = .ok (.aload_n 0, 1) := by decide +kernel
theorem nd_MO_look_108 : decode prog_8_method_25_code 108 = .ok (.getfield 66, 3) := by decide +kernel
theorem nd_MO_look_111 : decode prog_8_method_25_code 111 = .ok (.bipush 9, 2) := by decide +kernel
theorem nd_MO_look_113 : decode prog_8_method_25_code 113 = .ok (.iconst 3, 1) := by decide +kernel
theorem nd_MO_look_114 : decode prog_8_method_25_code 114 = .ok (.iload_n 2, 1) := by decide +kernel
theorem nd_MO_look_115 : decode prog_8_method_25_code 115 = .ok (.imul, 1) := by decide +kernel
theorem nd_MO_look_116 : decode prog_8_method_25_code 116 = .ok (.iadd, 1) := by decide +kernel
theorem nd_MO_look_117 : decode prog_8_method_25_code 117 = .ok (.iconst 2, 1) := by decide +kernel
theorem nd_MO_look_118 : decode prog_8_method_25_code 118 = .ok (.iadd, 1) := by decide +kernel
theorem nd_MO_look_119 : decode prog_8_method_25_code 119 = .ok (.iaload, 1) := by decide +kernel
theorem nd_MO_look_120 : decode prog_8_method_25_code 120 = .ok (.invokevirtual 152, 3) := by decide +kernel
theorem nd_MO_look_123 : decode prog_8_method_25_code 123 = .ok (.iinc 2 1, 3) := by decide +kernel
theorem nd_MO_look_126 : decode prog_8_method_25_code 126 = .ok (.goto (-46), 3) := by decide +kernel
theorem nd_MO_look_129 : decode prog_8_method_25_code 129 = .ok (.aload_n 0, 1) := by decide +kernel
theorem nd_MO_look_130 : decode prog_8_method_25_code 130 = .ok (.getfield 149, 3) := by decide +kernel
theorem nd_MO_look_133 : decode prog_8_method_25_code 133 = .ok (.ireturn, 1) := by decide +kernel
theorem nd_MO_shown_0 : decode prog_8_method_24_code 0 = .ok (.iload_n 1, 1) := by decide +kernel
theorem nd_MO_shown_1 : decode prog_8_method_24_code 1 = .ok (.ifCond .ne 4, 3) := by decide +kernel
theorem nd_MO_shown_4 : decode prog_8_method_24_code 4 = .ok (.return_, 1) := by decide +kernel
theorem nd_MO_shown_5 : decode prog_8_method_24_code 5 = .ok (.aload_n 0, 1) := by decide +kernel
theorem nd_MO_shown_6 : decode prog_8_method_24_code 6 = .ok (.iload_n 1, 1) := by decide +kernel
theorem nd_MO_shown_7 : decode prog_8_method_24_code 7 = .ok (.invokevirtual 131, 3) := by decide +kernel
theorem nd_MO_shown_10 : decode prog_8_method_24_code 10 = .ok (.aload_n 0, 1) := by decide +kernel
theorem nd_MO_shown_11 : decode prog_8_method_24_code 11 = .ok (.dup, 1) := by decide +kernel
theorem nd_MO_shown_12 : decode prog_8_method_24_code 12 = .ok (.getfield 149, 3) := by decide +kernel
theorem nd_MO_shown_15 : decode prog_8_method_24_code 15 = .ok (.iconst 1, 1) := by decide +kernel
theorem nd_MO_shown_16 : decode prog_8_method_24_code 16 = .ok (.iadd, 1) := by decide +kernel
theorem nd_MO_shown_17 : decode prog_8_method_24_code 17 = .ok (.putfield 149, 3) := by decide +kernel
theorem nd_MO_shown_20 : decode prog_8_method_24_code 20 = .ok (.return_, 1) := by decide +kernel
theorem nd_MO_derived_0 : decode prog_8_method_26_code 0 = .ok (.iload_n 1, 1) := by decide +kernel
theorem nd_MO_derived_1 : decode prog_8_method_26_code 1 = .ok (.ifCond .lt 11, 3) := by decide +kernel
theorem nd_MO_derived_4 : decode prog_8_method_26_code 4 = .ok (.iload_n 1, 1) := by decide +kernel
theorem nd_MO_derived_5 : decode prog_8_method_26_code 5 = .ok (.aload_n 0, 1) := by decide +kernel
theorem nd_MO_derived_6 : decode prog_8_method_26_code 6 = .ok (.getfield 128, 3) := by decide +kernel
theorem nd_MO_derived_9 : decode prog_8_method_26_code 9 = .ok (.if_icmp .lt 5, 3) := by decide +kernel
theorem nd_MO_derived_12 : decode prog_8_method_26_code 12 = .ok (.iconst (-1), 1) := by decide +kernel
theorem nd_MO_derived_13 : decode prog_8_method_26_code 13 = .ok (.ireturn, 1) := by decide +kernel
theorem nd_MO_derived_14 : decode prog_8_method_26_code 14 = .ok (.aload_n 0, 1) := by decide +kernel
theorem nd_MO_derived_15 : decode prog_8_method_26_code 15 = .ok (.invokevirtual 155, 3) := by decide +kernel
theorem nd_MO_derived_18 : decode prog_8_method_26_code 18 = .ok (.aload_n 0, 1) := by decide +kernel
theorem nd_MO_derived_19 : decode prog_8_method_26_code 19 = .ok (.getfield 31, 3) := by decide +kernel
theorem nd_MO_derived_22 : decode prog_8_method_26_code 22 = .ok (.aload_n 0, 1) := by decide +kernel
theorem nd_MO_derived_23 : decode prog_8_method_26_code 23 = .ok (.getfield 57, 3) := by decide +kernel
theorem nd_MO_derived_26 : decode prog_8_method_26_code 26 = .ok (.iload_n 1, 1) := by decide +kernel
theorem nd_MO_derived_27 : decode prog_8_method_26_code 27 = .ok (.iaload, 1) := by decide +kernel
theorem nd_MO_derived_28 : decode prog_8_method_26_code 28 = .ok (.baload, 1) := by decide +kernel
theorem nd_MO_derived_29 : decode prog_8_method_26_code 29 = .ok (.ifCond .eq 7, 3) := by decide +kernel
theorem nd_MO_derived_32 : decode prog_8_method_26_code 32 = .ok (.iconst 1, 1) := by decide +kernel
theorem nd_MO_derived_33 : decode prog_8_method_26_code 33 = .ok (.goto 4, 3) := by decide +kernel
theorem nd_MO_derived_36 : decode prog_8_method_26_code 36 = .ok (.iconst 0, 1) := by decide +kernel
theorem nd_MO_derived_37 : decode prog_8_method_26_code 37 = .ok (.ireturn, 1) := by decide +kernel
theorem nd_MO_derive_0 : decode prog_8_method_13_code 0 = .ok (.aload_n 0, 1) := by decide +kernel
theorem nd_MO_derive_1 : decode prog_8_method_13_code 1 = .ok (.getfield 38, 3) := by decide +kernel
theorem nd_MO_derive_4 : decode prog_8_method_13_code 4 = .ok (.istore_n 1, 1) := by decide +kernel
theorem nd_MO_derive_5 : decode prog_8_method_13_code 5 = .ok (.aload_n 0, 1) := by decide +kernel
theorem nd_MO_derive_6 : decode prog_8_method_13_code 6 = .ok (.iconst 0, 1) := by decide +kernel
theorem nd_MO_derive_7 : decode prog_8_method_13_code 7 = .ok (.putfield 38, 3) := by decide +kernel
theorem nd_MO_derive_10 : decode prog_8_method_13_code 10 = .ok (.iload_n 1, 1) := by decide +kernel
theorem nd_MO_derive_11 : decode prog_8_method_13_code 11 = .ok (.ifCond .eq 95, 3) := by decide +kernel
theorem nd_MO_derive_14 : decode prog_8_method_13_code 14 = .ok (.iconst 0, 1) := by decide +kernel
theorem nd_MO_derive_15 : decode prog_8_method_13_code 15 = .ok (.istore_n 1, 1) := by decide +kernel
theorem nd_MO_derive_16 : decode prog_8_method_13_code 16 = .ok (.iconst 1, 1) := by decide +kernel
theorem nd_MO_derive_17 : decode prog_8_method_13_code 17 = .ok (.istore_n 2, 1) := by decide +kernel
theorem nd_MO_derive_18 : decode prog_8_method_13_code 18 = .ok (.iload_n 2, 1) := by decide +kernel
theorem nd_MO_derive_19 : decode prog_8_method_13_code 19 = .ok (.aload_n 0, 1) := by decide +kernel
theorem nd_MO_derive_20 : decode prog_8_method_13_code 20 = .ok (.getfield 7, 3) := by decide +kernel
theorem nd_MO_derive_23 : decode prog_8_method_13_code 23 = .ok (.if_icmp .ge 80, 3) := by decide +kernel
theorem nd_MO_derive_26 : decode prog_8_method_13_code 26 = .ok (.aload_n 0, 1) := by decide +kernel
theorem nd_MO_derive_27 : decode prog_8_method_13_code 27 = .ok (.getfield 31, 3) := by decide +kernel
theorem nd_MO_derive_30 : decode prog_8_method_13_code 30 = .ok (.iload_n 2, 1) := by decide +kernel
theorem nd_MO_derive_31 : decode prog_8_method_13_code 31 = .ok (.baload, 1) := by decide +kernel
theorem nd_MO_derive_32 : decode prog_8_method_13_code 32 = .ok (.ifCond .ne 38, 3) := by decide +kernel
theorem nd_MO_derive_35 : decode prog_8_method_13_code 35 = .ok (.aload_n 0, 1) := by decide +kernel
theorem nd_MO_derive_36 : decode prog_8_method_13_code 36 = .ok (.getfield 27, 3) := by decide +kernel
theorem nd_MO_derive_39 : decode prog_8_method_13_code 39 = .ok (.iload_n 2, 1) := by decide +kernel
theorem nd_MO_derive_40 : decode prog_8_method_13_code 40 = .ok (.baload, 1) := by decide +kernel
theorem nd_MO_derive_41 : decode prog_8_method_13_code 41 = .ok (.ifCond .ne 11, 3) := by decide +kernel
theorem nd_MO_derive_44 : decode prog_8_method_13_code 44 = .ok (.aload_n 0, 1) := by decide +kernel
theorem nd_MO_derive_45 : decode prog_8_method_13_code 45 = .ok (.iload_n 2, 1) := by decide +kernel
theorem nd_MO_derive_46 : decode prog_8_method_13_code 46 = .ok (.invokevirtual 109, 3) := by decide +kernel
theorem nd_MO_derive_49 : decode prog_8_method_13_code 49 = .ok (.ifCond .eq 21, 3) := by decide +kernel
theorem nd_MO_derive_52 : decode prog_8_method_13_code 52 = .ok (.aload_n 0, 1) := by decide +kernel
theorem nd_MO_derive_53 : decode prog_8_method_13_code 53 = .ok (.iload_n 2, 1) := by decide +kernel
theorem nd_MO_derive_54 : decode prog_8_method_13_code 54 = .ok (.invokevirtual 106, 3) := by decide +kernel
theorem nd_MO_derive_57 : decode prog_8_method_13_code 57 = .ok (.ifCond .ne 7, 3) := by decide +kernel
theorem nd_MO_derive_60 : decode prog_8_method_13_code 60 = .ok (.iload_n 1, 1) := by decide +kernel
theorem nd_MO_derive_61 : decode prog_8_method_13_code 61 = .ok (.ifCond .eq 7, 3) := by decide +kernel
theorem nd_MO_derive_64 : decode prog_8_method_13_code 64 = .ok (.iconst 1, 1) := by decide +kernel
theorem nd_MO_derive_65 : decode prog_8_method_13_code 65 = .ok (.goto 4, 3) := by decide +kernel
theorem nd_MO_derive_68 : decode prog_8_method_13_code 68 = .ok (.iconst 0, 1) := by decide +kernel
theorem nd_MO_derive_69 : decode prog_8_method_13_code 69 = .ok (.istore_n 1, 1) := by decide +kernel
theorem nd_MO_derive_70 : decode prog_8_method_13_code 70 = .ok (.aload_n 0, 1) := by decide +kernel
theorem nd_MO_derive_71 : decode prog_8_method_13_code 71 = .ok (.getfield 31, 3) := by decide +kernel
theorem nd_MO_derive_74 : decode prog_8_method_13_code 74 = .ok (.iload_n 2, 1) := by decide +kernel
theorem nd_MO_derive_75 : decode prog_8_method_13_code 75 = .ok (.baload, 1) := by decide +kernel
theorem nd_MO_derive_76 : decode prog_8_method_13_code 76 = .ok (.ifCond .eq 21, 3) := by decide +kernel
theorem nd_MO_derive_79 : decode prog_8_method_13_code 79 = .ok (.aload_n 0, 1) := by decide +kernel
theorem nd_MO_derive_80 : decode prog_8_method_13_code 80 = .ok (.iload_n 2, 1) := by decide +kernel
theorem nd_MO_derive_81 : decode prog_8_method_13_code 81 = .ok (.invokevirtual 112, 3) := by decide +kernel
theorem nd_MO_derive_84 : decode prog_8_method_13_code 84 = .ok (.ifCond .ne 7, 3) := by decide +kernel
theorem nd_MO_derive_87 : decode prog_8_method_13_code 87 = .ok (.iload_n 1, 1) := by decide +kernel
theorem nd_MO_derive_88 : decode prog_8_method_13_code 88 = .ok (.ifCond .eq 7, 3) := by decide +kernel
theorem nd_MO_derive_91 : decode prog_8_method_13_code 91 = .ok (.iconst 1, 1) := by decide +kernel
theorem nd_MO_derive_92 : decode prog_8_method_13_code 92 = .ok (.goto 4, 3) := by decide +kernel
theorem nd_MO_derive_95 : decode prog_8_method_13_code 95 = .ok (.iconst 0, 1) := by decide +kernel
theorem nd_MO_derive_96 : decode prog_8_method_13_code 96 = .ok (.istore_n 1, 1) := by decide +kernel
theorem nd_MO_derive_97 : decode prog_8_method_13_code 97 = .ok (.iinc 2 1, 3) := by decide +kernel
theorem nd_MO_derive_100 : decode prog_8_method_13_code 100 = .ok (.goto (-82), 3) := by decide +kernel
theorem nd_MO_derive_103 : decode prog_8_method_13_code 103 = .ok (.goto (-93), 3) := by decide +kernel
theorem nd_MO_derive_106 : decode prog_8_method_13_code 106 = .ok (.return_, 1) := by decide +kernel
theorem nd_MO_canMake_0 : decode prog_8_method_10_code 0 = .ok (.aload_n 0, 1) := by decide +kernel
theorem nd_MO_canMake_1 : decode prog_8_method_10_code 1 = .ok (.getfield 13, 3) := by decide +kernel
theorem nd_MO_canMake_4 : decode prog_8_method_10_code 4 = .ok (.iload_n 1, 1) := by decide +kernel
theorem nd_MO_canMake_5 : decode prog_8_method_10_code 5 = .ok (.baload, 1) := by decide +kernel
theorem nd_MO_canMake_6 : decode prog_8_method_10_code 6 = .ok (.tableswitch 218 2 6 #[34, 46, 106, 138, 186], 34) := by decide +kernel
theorem nd_MO_canMake_40 : decode prog_8_method_10_code 40 = .ok (.aload_n 0, 1) := by decide +kernel
theorem nd_MO_canMake_41 : decode prog_8_method_10_code 41 = .ok (.getfield 31, 3) := by decide +kernel
theorem nd_MO_canMake_44 : decode prog_8_method_10_code 44 = .ok (.aload_n 0, 1) := by decide +kernel
theorem nd_MO_canMake_45 : decode prog_8_method_10_code 45 = .ok (.getfield 17, 3) := by decide +kernel
theorem nd_MO_canMake_48 : decode prog_8_method_10_code 48 = .ok (.iload_n 1, 1) := by decide +kernel
theorem nd_MO_canMake_49 : decode prog_8_method_10_code 49 = .ok (.iaload, 1) := by decide +kernel
theorem nd_MO_canMake_50 : decode prog_8_method_10_code 50 = .ok (.baload, 1) := by decide +kernel
theorem nd_MO_canMake_51 : decode prog_8_method_10_code 51 = .ok (.ireturn, 1) := by decide +kernel
theorem nd_MO_canMake_52 : decode prog_8_method_10_code 52 = .ok (.aload_n 0, 1) := by decide +kernel
theorem nd_MO_canMake_53 : decode prog_8_method_10_code 53 = .ok (.getfield 31, 3) := by decide +kernel
theorem nd_MO_canMake_56 : decode prog_8_method_10_code 56 = .ok (.aload_n 0, 1) := by decide +kernel
theorem nd_MO_canMake_57 : decode prog_8_method_10_code 57 = .ok (.getfield 17, 3) := by decide +kernel
theorem nd_MO_canMake_60 : decode prog_8_method_10_code 60 = .ok (.iload_n 1, 1) := by decide +kernel
theorem nd_MO_canMake_61 : decode prog_8_method_10_code 61 = .ok (.iaload, 1) := by decide +kernel
theorem nd_MO_canMake_62 : decode prog_8_method_10_code 62 = .ok (.baload, 1) := by decide +kernel
theorem nd_MO_canMake_63 : decode prog_8_method_10_code 63 = .ok (.ifCond .eq 16, 3) := by decide +kernel
theorem nd_MO_canMake_66 : decode prog_8_method_10_code 66 = .ok (.aload_n 0, 1) := by decide +kernel
theorem nd_MO_canMake_67 : decode prog_8_method_10_code 67 = .ok (.aload_n 0, 1) := by decide +kernel
theorem nd_MO_canMake_68 : decode prog_8_method_10_code 68 = .ok (.getfield 21, 3) := by decide +kernel
theorem nd_MO_canMake_71 : decode prog_8_method_10_code 71 = .ok (.iload_n 1, 1) := by decide +kernel
theorem nd_MO_canMake_72 : decode prog_8_method_10_code 72 = .ok (.iaload, 1) := by decide +kernel
theorem nd_MO_canMake_73 : decode prog_8_method_10_code 73 = .ok (.invokevirtual 99, 3) := by decide +kernel
theorem nd_MO_canMake_76 : decode prog_8_method_10_code 76 = .ok (.ifCond .ne 30, 3) := by decide +kernel
theorem nd_MO_canMake_79 : decode prog_8_method_10_code 79 = .ok (.aload_n 0, 1) := by decide +kernel
theorem nd_MO_canMake_80 : decode prog_8_method_10_code 80 = .ok (.getfield 31, 3) := by decide +kernel
theorem nd_MO_canMake_83 : decode prog_8_method_10_code 83 = .ok (.aload_n 0, 1) := by decide +kernel
theorem nd_MO_canMake_84 : decode prog_8_method_10_code 84 = .ok (.getfield 21, 3) := by decide +kernel
theorem nd_MO_canMake_87 : decode prog_8_method_10_code 87 = .ok (.iload_n 1, 1) := by decide +kernel
theorem nd_MO_canMake_88 : decode prog_8_method_10_code 88 = .ok (.iaload, 1) := by decide +kernel
theorem nd_MO_canMake_89 : decode prog_8_method_10_code 89 = .ok (.baload, 1) := by decide +kernel
theorem nd_MO_canMake_90 : decode prog_8_method_10_code 90 = .ok (.ifCond .eq 20, 3) := by decide +kernel
theorem nd_MO_canMake_93 : decode prog_8_method_10_code 93 = .ok (.aload_n 0, 1) := by decide +kernel
theorem nd_MO_canMake_94 : decode prog_8_method_10_code 94 = .ok (.aload_n 0, 1) := by decide +kernel
theorem nd_MO_canMake_95 : decode prog_8_method_10_code 95 = .ok (.getfield 17, 3) := by decide +kernel
theorem nd_MO_canMake_98 : decode prog_8_method_10_code 98 = .ok (.iload_n 1, 1) := by decide +kernel
theorem nd_MO_canMake_99 : decode prog_8_method_10_code 99 = .ok (.iaload, 1) := by decide +kernel
theorem nd_MO_canMake_100 : decode prog_8_method_10_code 100 = .ok (.invokevirtual 99, 3) := by decide +kernel
theorem nd_MO_canMake_103 : decode prog_8_method_10_code 103 = .ok (.ifCond .eq 7, 3) := by decide +kernel
theorem nd_MO_canMake_106 : decode prog_8_method_10_code 106 = .ok (.iconst 1, 1) := by decide +kernel
theorem nd_MO_canMake_107 : decode prog_8_method_10_code 107 = .ok (.goto 4, 3) := by decide +kernel
theorem nd_MO_canMake_110 : decode prog_8_method_10_code 110 = .ok (.iconst 0, 1) := by decide +kernel
theorem nd_MO_canMake_111 : decode prog_8_method_10_code 111 = .ok (.ireturn, 1) := by decide +kernel
theorem nd_MO_canMake_112 : decode prog_8_method_10_code 112 = .ok (.aload_n 0, 1) := by decide +kernel
theorem nd_MO_canMake_113 : decode prog_8_method_10_code 113 = .ok (.aload_n 0, 1) := by decide +kernel
theorem nd_MO_canMake_114 : decode prog_8_method_10_code 114 = .ok (.getfield 21, 3) := by decide +kernel
theorem nd_MO_canMake_117 : decode prog_8_method_10_code 117 = .ok (.iload_n 1, 1) := by decide +kernel
theorem nd_MO_canMake_118 : decode prog_8_method_10_code 118 = .ok (.iaload, 1) := by decide +kernel
theorem nd_MO_canMake_119 : decode prog_8_method_10_code 119 = .ok (.invokevirtual 103, 3) := by decide +kernel
theorem nd_MO_canMake_122 : decode prog_8_method_10_code 122 = .ok (.ifCond .eq 20, 3) := by decide +kernel
theorem nd_MO_canMake_125 : decode prog_8_method_10_code 125 = .ok (.aload_n 0, 1) := by decide +kernel
theorem nd_MO_canMake_126 : decode prog_8_method_10_code 126 = .ok (.aload_n 0, 1) := by decide +kernel
theorem nd_MO_canMake_127 : decode prog_8_method_10_code 127 = .ok (.getfield 24, 3) := by decide +kernel
theorem nd_MO_canMake_130 : decode prog_8_method_10_code 130 = .ok (.iload_n 1, 1) := by decide +kernel
theorem nd_MO_canMake_131 : decode prog_8_method_10_code 131 = .ok (.iaload, 1) := by decide +kernel
theorem nd_MO_canMake_132 : decode prog_8_method_10_code 132 = .ok (.invokevirtual 103, 3) := by decide +kernel
theorem nd_MO_canMake_135 : decode prog_8_method_10_code 135 = .ok (.ifCond .eq 7, 3) := by decide +kernel
theorem nd_MO_canMake_138 : decode prog_8_method_10_code 138 = .ok (.iconst 1, 1) := by decide +kernel
theorem nd_MO_canMake_139 : decode prog_8_method_10_code 139 = .ok (.goto 4, 3) := by decide +kernel
theorem nd_MO_canMake_142 : decode prog_8_method_10_code 142 = .ok (.iconst 0, 1) := by decide +kernel
theorem nd_MO_canMake_143 : decode prog_8_method_10_code 143 = .ok (.ireturn, 1) := by decide +kernel
theorem nd_MO_canMake_144 : decode prog_8_method_10_code 144 = .ok (.aload_n 0, 1) := by decide +kernel
theorem nd_MO_canMake_145 : decode prog_8_method_10_code 145 = .ok (.getfield 31, 3) := by decide +kernel
theorem nd_MO_canMake_148 : decode prog_8_method_10_code 148 = .ok (.aload_n 0, 1) := by decide +kernel
theorem nd_MO_canMake_149 : decode prog_8_method_10_code 149 = .ok (.getfield 17, 3) := by decide +kernel
theorem nd_MO_canMake_152 : decode prog_8_method_10_code 152 = .ok (.iload_n 1, 1) := by decide +kernel
theorem nd_MO_canMake_153 : decode prog_8_method_10_code 153 = .ok (.iaload, 1) := by decide +kernel
theorem nd_MO_canMake_154 : decode prog_8_method_10_code 154 = .ok (.baload, 1) := by decide +kernel
theorem nd_MO_canMake_155 : decode prog_8_method_10_code 155 = .ok (.ifCond .eq 35, 3) := by decide +kernel
theorem nd_MO_canMake_158 : decode prog_8_method_10_code 158 = .ok (.aload_n 0, 1) := by decide +kernel
theorem nd_MO_canMake_159 : decode prog_8_method_10_code 159 = .ok (.getfield 31, 3) := by decide +kernel
theorem nd_MO_canMake_162 : decode prog_8_method_10_code 162 = .ok (.aload_n 0, 1) := by decide +kernel
theorem nd_MO_canMake_163 : decode prog_8_method_10_code 163 = .ok (.getfield 21, 3) := by decide +kernel
theorem nd_MO_canMake_166 : decode prog_8_method_10_code 166 = .ok (.iload_n 1, 1) := by decide +kernel
theorem nd_MO_canMake_167 : decode prog_8_method_10_code 167 = .ok (.iaload, 1) := by decide +kernel
theorem nd_MO_canMake_168 : decode prog_8_method_10_code 168 = .ok (.baload, 1) := by decide +kernel
theorem nd_MO_canMake_169 : decode prog_8_method_10_code 169 = .ok (.ifCond .eq 21, 3) := by decide +kernel
theorem nd_MO_canMake_172 : decode prog_8_method_10_code 172 = .ok (.aload_n 0, 1) := by decide +kernel
theorem nd_MO_canMake_173 : decode prog_8_method_10_code 173 = .ok (.getfield 31, 3) := by decide +kernel
theorem nd_MO_canMake_176 : decode prog_8_method_10_code 176 = .ok (.aload_n 0, 1) := by decide +kernel
theorem nd_MO_canMake_177 : decode prog_8_method_10_code 177 = .ok (.getfield 24, 3) := by decide +kernel
theorem nd_MO_canMake_180 : decode prog_8_method_10_code 180 = .ok (.iload_n 1, 1) := by decide +kernel
theorem nd_MO_canMake_181 : decode prog_8_method_10_code 181 = .ok (.iaload, 1) := by decide +kernel
theorem nd_MO_canMake_182 : decode prog_8_method_10_code 182 = .ok (.baload, 1) := by decide +kernel
theorem nd_MO_canMake_183 : decode prog_8_method_10_code 183 = .ok (.ifCond .eq 7, 3) := by decide +kernel
theorem nd_MO_canMake_186 : decode prog_8_method_10_code 186 = .ok (.iconst 1, 1) := by decide +kernel
theorem nd_MO_canMake_187 : decode prog_8_method_10_code 187 = .ok (.goto 4, 3) := by decide +kernel
theorem nd_MO_canMake_190 : decode prog_8_method_10_code 190 = .ok (.iconst 0, 1) := by decide +kernel
theorem nd_MO_canMake_191 : decode prog_8_method_10_code 191 = .ok (.ireturn, 1) := by decide +kernel
theorem nd_MO_canMake_192 : decode prog_8_method_10_code 192 = .ok (.aload_n 0, 1) := by decide +kernel
theorem nd_MO_canMake_193 : decode prog_8_method_10_code 193 = .ok (.aload_n 0, 1) := by decide +kernel
theorem nd_MO_canMake_194 : decode prog_8_method_10_code 194 = .ok (.getfield 21, 3) := by decide +kernel
theorem nd_MO_canMake_197 : decode prog_8_method_10_code 197 = .ok (.iload_n 1, 1) := by decide +kernel
theorem nd_MO_canMake_198 : decode prog_8_method_10_code 198 = .ok (.iaload, 1) := by decide +kernel
theorem nd_MO_canMake_199 : decode prog_8_method_10_code 199 = .ok (.invokevirtual 103, 3) := by decide +kernel
theorem nd_MO_canMake_202 : decode prog_8_method_10_code 202 = .ok (.ifCond .eq 20, 3) := by decide +kernel
theorem nd_MO_canMake_205 : decode prog_8_method_10_code 205 = .ok (.aload_n 0, 1) := by decide +kernel
theorem nd_MO_canMake_206 : decode prog_8_method_10_code 206 = .ok (.aload_n 0, 1) := by decide +kernel
theorem nd_MO_canMake_207 : decode prog_8_method_10_code 207 = .ok (.getfield 24, 3) := by decide +kernel
theorem nd_MO_canMake_210 : decode prog_8_method_10_code 210 = .ok (.iload_n 1, 1) := by decide +kernel
theorem nd_MO_canMake_211 : decode prog_8_method_10_code 211 = .ok (.iaload, 1) := by decide +kernel
theorem nd_MO_canMake_212 : decode prog_8_method_10_code 212 = .ok (.invokevirtual 103, 3) := by decide +kernel
theorem nd_MO_canMake_215 : decode prog_8_method_10_code 215 = .ok (.ifCond .eq 7, 3) := by decide +kernel
theorem nd_MO_canMake_218 : decode prog_8_method_10_code 218 = .ok (.iconst 1, 1) := by decide +kernel
theorem nd_MO_canMake_219 : decode prog_8_method_10_code 219 = .ok (.goto 4, 3) := by decide +kernel
theorem nd_MO_canMake_222 : decode prog_8_method_10_code 222 = .ok (.iconst 0, 1) := by decide +kernel
theorem nd_MO_canMake_223 : decode prog_8_method_10_code 223 = .ok (.ireturn, 1) := by decide +kernel
theorem nd_MO_canMake_224 : decode prog_8_method_10_code 224 = .ok (.iconst 0, 1) := by decide +kernel
theorem nd_MO_canMake_225 : decode prog_8_method_10_code 225 = .ok (.ireturn, 1) := by decide +kernel
theorem nd_MO_shows_0 : decode prog_8_method_9_code 0 = .ok (.aload_n 0, 1) := by decide +kernel
theorem nd_MO_shows_1 : decode prog_8_method_9_code 1 = .ok (.getfield 31, 3) := by decide +kernel
theorem nd_MO_shows_4 : decode prog_8_method_9_code 4 = .ok (.iload_n 1, 1) := by decide +kernel
theorem nd_MO_shows_5 : decode prog_8_method_9_code 5 = .ok (.baload, 1) := by decide +kernel
theorem nd_MO_shows_6 : decode prog_8_method_9_code 6 = .ok (.ifCond .ne 16, 3) := by decide +kernel
theorem nd_MO_shows_9 : decode prog_8_method_9_code 9 = .ok (.aload_n 0, 1) := by decide +kernel
theorem nd_MO_shows_10 : decode prog_8_method_9_code 10 = .ok (.getfield 31, 3) := by decide +kernel
theorem nd_MO_shows_13 : decode prog_8_method_9_code 13 = .ok (.aload_n 0, 1) := by decide +kernel
theorem nd_MO_shows_14 : decode prog_8_method_9_code 14 = .ok (.iload_n 1, 1) := by decide +kernel
theorem nd_MO_shows_15 : decode prog_8_method_9_code 15 = .ok (.invokevirtual 73, 3) := by decide +kernel
theorem nd_MO_shows_18 : decode prog_8_method_9_code 18 = .ok (.baload, 1) := by decide +kernel
theorem nd_MO_shows_19 : decode prog_8_method_9_code 19 = .ok (.ifCond .eq 7, 3) := by decide +kernel
theorem nd_MO_shows_22 : decode prog_8_method_9_code 22 = .ok (.iconst 1, 1) := by decide +kernel
theorem nd_MO_shows_23 : decode prog_8_method_9_code 23 = .ok (.goto 4, 3) := by decide +kernel
theorem nd_MO_shows_26 : decode prog_8_method_9_code 26 = .ok (.iconst 0, 1) := by decide +kernel
theorem nd_MO_shows_27 : decode prog_8_method_9_code 27 = .ok (.ireturn, 1) := by decide +kernel
theorem nd_MO_has_0 : decode prog_8_method_8_code 0 = .ok (.iload_n 1, 1) := by decide +kernel
theorem nd_MO_has_1 : decode prog_8_method_8_code 1 = .ok (.ifCond .eq 12, 3) := by decide +kernel
theorem nd_MO_has_4 : decode prog_8_method_8_code 4 = .ok (.aload_n 0, 1) := by decide +kernel
theorem nd_MO_has_5 : decode prog_8_method_8_code 5 = .ok (.getfield 31, 3) := by decide +kernel
theorem nd_MO_has_8 : decode prog_8_method_8_code 8 = .ok (.iload_n 1, 1) := by decide +kernel
theorem nd_MO_has_9 : decode prog_8_method_8_code 9 = .ok (.baload, 1) := by decide +kernel
theorem nd_MO_has_10 : decode prog_8_method_8_code 10 = .ok (.ifCond .eq 7, 3) := by decide +kernel
theorem nd_MO_has_13 : decode prog_8_method_8_code 13 = .ok (.iconst 1, 1) := by decide +kernel
theorem nd_MO_has_14 : decode prog_8_method_8_code 14 = .ok (.goto 4, 3) := by decide +kernel
theorem nd_MO_has_17 : decode prog_8_method_8_code 17 = .ok (.iconst 0, 1) := by decide +kernel
theorem nd_MO_has_18 : decode prog_8_method_8_code 18 = .ok (.ireturn, 1) := by decide +kernel
theorem nd_MO_learn_0 : decode prog_8_method_11_code 0 = .ok (.aload_n 0, 1) := by decide +kernel
theorem nd_MO_learn_1 : decode prog_8_method_11_code 1 = .ok (.iload_n 1, 1) := by decide +kernel
theorem nd_MO_learn_2 : decode prog_8_method_11_code 2 = .ok (.invokevirtual 103, 3) := by decide +kernel
theorem nd_MO_learn_5 : decode prog_8_method_11_code 5 = .ok (.ifCond .eq 5, 3) := by decide +kernel
theorem nd_MO_learn_8 : decode prog_8_method_11_code 8 = .ok (.iconst 0, 1) := by decide +kernel
theorem nd_MO_learn_9 : decode prog_8_method_11_code 9 = .ok (.ireturn, 1) := by decide +kernel
theorem nd_MO_learn_10 : decode prog_8_method_11_code 10 = .ok (.aload_n 0, 1) := by decide +kernel
theorem nd_MO_learn_11 : decode prog_8_method_11_code 11 = .ok (.getfield 31, 3) := by decide +kernel
theorem nd_MO_learn_14 : decode prog_8_method_11_code 14 = .ok (.iload_n 1, 1) := by decide +kernel
theorem nd_MO_learn_15 : decode prog_8_method_11_code 15 = .ok (.iconst 1, 1) := by decide +kernel
theorem nd_MO_learn_16 : decode prog_8_method_11_code 16 = .ok (.bastore, 1) := by decide +kernel
theorem nd_MO_learn_17 : decode prog_8_method_11_code 17 = .ok (.iconst 1, 1) := by decide +kernel
theorem nd_MO_learn_18 : decode prog_8_method_11_code 18 = .ok (.ireturn, 1) := by decide +kernel
theorem nd_MO_open_0 : decode prog_8_method_12_code 0 = .ok (.iconst 0, 1) := by decide +kernel
theorem nd_MO_open_1 : decode prog_8_method_12_code 1 = .ok (.istore_n 2, 1) := by decide +kernel
theorem nd_MO_open_2 : decode prog_8_method_12_code 2 = .ok (.aload_n 0, 1) := by decide +kernel
theorem nd_MO_open_3 : decode prog_8_method_12_code 3 = .ok (.getfield 13, 3) := by decide +kernel
theorem nd_MO_open_6 : decode prog_8_method_12_code 6 = .ok (.iload_n 1, 1) := by decide +kernel
theorem nd_MO_open_7 : decode prog_8_method_12_code 7 = .ok (.baload, 1) := by decide +kernel
theorem nd_MO_open_8 : decode prog_8_method_12_code 8 = .ok (.iconst 5, 1) := by decide +kernel
theorem nd_MO_open_9 : decode prog_8_method_12_code 9 = .ok (.if_icmp .ne 51, 3) := by decide +kernel
theorem nd_MO_open_12 : decode prog_8_method_12_code 12 = .ok (.aload_n 0, 1) := by decide +kernel
theorem nd_MO_open_13 : decode prog_8_method_12_code 13 = .ok (.aload_n 0, 1) := by decide +kernel
theorem nd_MO_open_14 : decode prog_8_method_12_code 14 = .ok (.getfield 21, 3) := by decide +kernel
theorem nd_MO_open_17 : decode prog_8_method_12_code 17 = .ok (.iload_n 1, 1) := by decide +kernel
theorem nd_MO_open_18 : decode prog_8_method_12_code 18 = .ok (.iaload, 1) := by decide +kernel
theorem nd_MO_open_19 : decode prog_8_method_12_code 19 = .ok (.invokevirtual 106, 3) := by decide +kernel
theorem nd_MO_open_22 : decode prog_8_method_12_code 22 = .ok (.istore_n 2, 1) := by decide +kernel
theorem nd_MO_open_23 : decode prog_8_method_12_code 23 = .ok (.aload_n 0, 1) := by decide +kernel
theorem nd_MO_open_24 : decode prog_8_method_12_code 24 = .ok (.getfield 31, 3) := by decide +kernel
theorem nd_MO_open_27 : decode prog_8_method_12_code 27 = .ok (.aload_n 0, 1) := by decide +kernel
theorem nd_MO_open_28 : decode prog_8_method_12_code 28 = .ok (.getfield 17, 3) := by decide +kernel
theorem nd_MO_open_31 : decode prog_8_method_12_code 31 = .ok (.iload_n 1, 1) := by decide +kernel
theorem nd_MO_open_32 : decode prog_8_method_12_code 32 = .ok (.iaload, 1) := by decide +kernel
theorem nd_MO_open_33 : decode prog_8_method_12_code 33 = .ok (.baload, 1) := by decide +kernel
theorem nd_MO_open_34 : decode prog_8_method_12_code 34 = .ok (.ifCond .eq 26, 3) := by decide +kernel
theorem nd_MO_open_37 : decode prog_8_method_12_code 37 = .ok (.aload_n 0, 1) := by decide +kernel
theorem nd_MO_open_38 : decode prog_8_method_12_code 38 = .ok (.aload_n 0, 1) := by decide +kernel
theorem nd_MO_open_39 : decode prog_8_method_12_code 39 = .ok (.getfield 24, 3) := by decide +kernel
theorem nd_MO_open_42 : decode prog_8_method_12_code 42 = .ok (.iload_n 1, 1) := by decide +kernel
theorem nd_MO_open_43 : decode prog_8_method_12_code 43 = .ok (.iaload, 1) := by decide +kernel
theorem nd_MO_open_44 : decode prog_8_method_12_code 44 = .ok (.invokevirtual 106, 3) := by decide +kernel
theorem nd_MO_open_47 : decode prog_8_method_12_code 47 = .ok (.ifCond .ne 7, 3) := by decide +kernel
theorem nd_MO_open_50 : decode prog_8_method_12_code 50 = .ok (.iload_n 2, 1) := by decide +kernel
theorem nd_MO_open_51 : decode prog_8_method_12_code 51 = .ok (.ifCond .eq 7, 3) := by decide +kernel
theorem nd_MO_open_54 : decode prog_8_method_12_code 54 = .ok (.iconst 1, 1) := by decide +kernel
theorem nd_MO_open_55 : decode prog_8_method_12_code 55 = .ok (.goto 4, 3) := by decide +kernel
theorem nd_MO_open_58 : decode prog_8_method_12_code 58 = .ok (.iconst 0, 1) := by decide +kernel
theorem nd_MO_open_59 : decode prog_8_method_12_code 59 = .ok (.istore_n 2, 1) := by decide +kernel
theorem nd_MO_open_60 : decode prog_8_method_12_code 60 = .ok (.aload_n 0, 1) := by decide +kernel
theorem nd_MO_open_61 : decode prog_8_method_12_code 61 = .ok (.getfield 13, 3) := by decide +kernel
theorem nd_MO_open_64 : decode prog_8_method_12_code 64 = .ok (.iload_n 1, 1) := by decide +kernel
theorem nd_MO_open_65 : decode prog_8_method_12_code 65 = .ok (.baload, 1) := by decide +kernel
theorem nd_MO_open_66 : decode prog_8_method_12_code 66 = .ok (.bipush 6, 2) := by decide +kernel
theorem nd_MO_open_68 : decode prog_8_method_12_code 68 = .ok (.if_icmp .ne 37, 3) := by decide +kernel
theorem nd_MO_open_71 : decode prog_8_method_12_code 71 = .ok (.aload_n 0, 1) := by decide +kernel
theorem nd_MO_open_72 : decode prog_8_method_12_code 72 = .ok (.aload_n 0, 1) := by decide +kernel
theorem nd_MO_open_73 : decode prog_8_method_12_code 73 = .ok (.getfield 21, 3) := by decide +kernel
theorem nd_MO_open_76 : decode prog_8_method_12_code 76 = .ok (.iload_n 1, 1) := by decide +kernel
theorem nd_MO_open_77 : decode prog_8_method_12_code 77 = .ok (.iaload, 1) := by decide +kernel
theorem nd_MO_open_78 : decode prog_8_method_12_code 78 = .ok (.invokevirtual 106, 3) := by decide +kernel
theorem nd_MO_open_81 : decode prog_8_method_12_code 81 = .ok (.istore_n 2, 1) := by decide +kernel
theorem nd_MO_open_82 : decode prog_8_method_12_code 82 = .ok (.aload_n 0, 1) := by decide +kernel
theorem nd_MO_open_83 : decode prog_8_method_12_code 83 = .ok (.aload_n 0, 1) := by decide +kernel
theorem nd_MO_open_84 : decode prog_8_method_12_code 84 = .ok (.getfield 24, 3) := by decide +kernel
theorem nd_MO_open_87 : decode prog_8_method_12_code 87 = .ok (.iload_n 1, 1) := by decide +kernel
theorem nd_MO_open_88 : decode prog_8_method_12_code 88 = .ok (.iaload, 1) := by decide +kernel
theorem nd_MO_open_89 : decode prog_8_method_12_code 89 = .ok (.invokevirtual 106, 3) := by decide +kernel
theorem nd_MO_open_92 : decode prog_8_method_12_code 92 = .ok (.ifCond .ne 7, 3) := by decide +kernel
theorem nd_MO_open_95 : decode prog_8_method_12_code 95 = .ok (.iload_n 2, 1) := by decide +kernel
theorem nd_MO_open_96 : decode prog_8_method_12_code 96 = .ok (.ifCond .eq 7, 3) := by decide +kernel
theorem nd_MO_open_99 : decode prog_8_method_12_code 99 = .ok (.iconst 1, 1) := by decide +kernel
theorem nd_MO_open_100 : decode prog_8_method_12_code 100 = .ok (.goto 4, 3) := by decide +kernel
theorem nd_MO_open_103 : decode prog_8_method_12_code 103 = .ok (.iconst 0, 1) := by decide +kernel
theorem nd_MO_open_104 : decode prog_8_method_12_code 104 = .ok (.istore_n 2, 1) := by decide +kernel
theorem nd_MO_open_105 : decode prog_8_method_12_code 105 = .ok (.iload_n 2, 1) := by decide +kernel
theorem nd_MO_open_106 : decode prog_8_method_12_code 106 = .ok (.ireturn, 1) := by decide +kernel
theorem nd_MO_opens_0 : decode prog_8_method_27_code 0 = .ok (.iload_n 1, 1) := by decide +kernel
theorem nd_MO_opens_1 : decode prog_8_method_27_code 1 = .ok (.ifCond .lt 11, 3) := by decide +kernel
theorem nd_MO_opens_4 : decode prog_8_method_27_code 4 = .ok (.iload_n 1, 1) := by decide +kernel
theorem nd_MO_opens_5 : decode prog_8_method_27_code 5 = .ok (.aload_n 0, 1) := by decide +kernel
theorem nd_MO_opens_6 : decode prog_8_method_27_code 6 = .ok (.getfield 128, 3) := by decide +kernel
theorem nd_MO_opens_9 : decode prog_8_method_27_code 9 = .ok (.if_icmp .lt 5, 3) := by decide +kernel
theorem nd_MO_opens_12 : decode prog_8_method_27_code 12 = .ok (.iconst (-1), 1) := by decide +kernel
theorem nd_MO_opens_13 : decode prog_8_method_27_code 13 = .ok (.ireturn, 1) := by decide +kernel
theorem nd_MO_opens_14 : decode prog_8_method_27_code 14 = .ok (.aload_n 0, 1) := by decide +kernel
theorem nd_MO_opens_15 : decode prog_8_method_27_code 15 = .ok (.iconst 1, 1) := by decide +kernel
theorem nd_MO_opens_16 : decode prog_8_method_27_code 16 = .ok (.putfield 38, 3) := by decide +kernel
theorem nd_MO_opens_19 : decode prog_8_method_27_code 19 = .ok (.aload_n 0, 1) := by decide +kernel
theorem nd_MO_opens_20 : decode prog_8_method_27_code 20 = .ok (.invokevirtual 155, 3) := by decide +kernel
theorem nd_MO_opens_23 : decode prog_8_method_27_code 23 = .ok (.aload_n 0, 1) := by decide +kernel
theorem nd_MO_opens_24 : decode prog_8_method_27_code 24 = .ok (.getfield 31, 3) := by decide +kernel
theorem nd_MO_opens_27 : decode prog_8_method_27_code 27 = .ok (.aload_n 0, 1) := by decide +kernel
theorem nd_MO_opens_28 : decode prog_8_method_27_code 28 = .ok (.getfield 17, 3) := by decide +kernel
theorem nd_MO_opens_31 : decode prog_8_method_27_code 31 = .ok (.aload_n 0, 1) := by decide +kernel
theorem nd_MO_opens_32 : decode prog_8_method_27_code 32 = .ok (.getfield 54, 3) := by decide +kernel
theorem nd_MO_opens_35 : decode prog_8_method_27_code 35 = .ok (.iload_n 1, 1) := by decide +kernel
theorem nd_MO_opens_36 : decode prog_8_method_27_code 36 = .ok (.iaload, 1) := by decide +kernel
theorem nd_MO_opens_37 : decode prog_8_method_27_code 37 = .ok (.iaload, 1) := by decide +kernel
theorem nd_MO_opens_38 : decode prog_8_method_27_code 38 = .ok (.baload, 1) := by decide +kernel
theorem nd_MO_opens_39 : decode prog_8_method_27_code 39 = .ok (.ifCond .eq 7, 3) := by decide +kernel
theorem nd_MO_opens_42 : decode prog_8_method_27_code 42 = .ok (.iconst 1, 1) := by decide +kernel
theorem nd_MO_opens_43 : decode prog_8_method_27_code 43 = .ok (.goto 4, 3) := by decide +kernel
theorem nd_MO_opens_46 : decode prog_8_method_27_code 46 = .ok (.iconst 0, 1) := by decide +kernel
theorem nd_MO_opens_47 : decode prog_8_method_27_code 47 = .ok (.ireturn, 1) := by decide +kernel
theorem nd_MO_back_0 : decode prog_8_method_28_code 0 = .ok (.iload_n 1, 1) := by decide +kernel
theorem nd_MO_back_1 : decode prog_8_method_28_code 1 = .ok (.invokestatic 115, 3) := by decide +kernel
theorem nd_MO_back_4 : decode prog_8_method_28_code 4 = .ok (.ifCond .ne 5, 3) := by decide +kernel
theorem nd_MO_back_7 : decode prog_8_method_28_code 7 = .ok (.iconst (-1), 1) := by decide +kernel
theorem nd_MO_back_8 : decode prog_8_method_28_code 8 = .ok (.ireturn, 1) := by decide +kernel
theorem nd_MO_back_9 : decode prog_8_method_28_code 9 = .ok (.iconst 0, 1) := by decide +kernel
theorem nd_MO_back_10 : decode prog_8_method_28_code 10 = .ok (.istore_n 2, 1) := by decide +kernel
theorem nd_MO_back_11 : decode prog_8_method_28_code 11 = .ok (.iload_n 2, 1) := by decide +kernel
theorem nd_MO_back_12 : decode prog_8_method_28_code 12 = .ok (.bipush 33, 2) := by decide +kernel
theorem nd_MO_back_14 : decode prog_8_method_28_code 14 = .ok (.if_icmp .ge 31, 3) := by decide +kernel
theorem nd_MO_back_17 : decode prog_8_method_28_code 17 = .ok (.aload_n 0, 1) := by decide +kernel
theorem nd_MO_back_18 : decode prog_8_method_28_code 18 = .ok (.getfield 60, 3) := by decide +kernel
theorem nd_MO_back_21 : decode prog_8_method_28_code 21 = .ok (.bipush 33, 2) := by decide +kernel
theorem nd_MO_back_23 : decode prog_8_method_28_code 23 = .ok (.iload_n 1, 1) := by decide +kernel
theorem nd_MO_back_24 : decode prog_8_method_28_code 24 = .ok (.imul, 1) := by decide +kernel
theorem nd_MO_back_25 : decode prog_8_method_28_code 25 = .ok (.iload_n 2, 1) := by decide +kernel
theorem nd_MO_back_26 : decode prog_8_method_28_code 26 = .ok (.iadd, 1) := by decide +kernel
theorem nd_MO_back_27 : decode prog_8_method_28_code 27 = .ok (.aload_n 0, 1) := by decide +kernel
theorem nd_MO_back_28 : decode prog_8_method_28_code 28 = .ok (.getfield 63, 3) := by decide +kernel
theorem nd_MO_back_31 : decode prog_8_method_28_code 31 = .ok (.bipush 33, 2) := by decide +kernel
theorem nd_MO_back_33 : decode prog_8_method_28_code 33 = .ok (.iload_n 1, 1) := by decide +kernel
theorem nd_MO_back_34 : decode prog_8_method_28_code 34 = .ok (.imul, 1) := by decide +kernel
theorem nd_MO_back_35 : decode prog_8_method_28_code 35 = .ok (.iload_n 2, 1) := by decide +kernel
theorem nd_MO_back_36 : decode prog_8_method_28_code 36 = .ok (.iadd, 1) := by decide +kernel
theorem nd_MO_back_37 : decode prog_8_method_28_code 37 = .ok (.iaload, 1) := by decide +kernel
theorem nd_MO_back_38 : decode prog_8_method_28_code 38 = .ok (.iastore, 1) := by decide +kernel
theorem nd_MO_back_39 : decode prog_8_method_28_code 39 = .ok (.iinc 2 1, 3) := by decide +kernel
theorem nd_MO_back_42 : decode prog_8_method_28_code 42 = .ok (.goto (-31), 3) := by decide +kernel
theorem nd_MO_back_45 : decode prog_8_method_28_code 45 = .ok (.iconst 1, 1) := by decide +kernel
theorem nd_MO_back_46 : decode prog_8_method_28_code 46 = .ok (.ireturn, 1) := by decide +kernel
theorem nd_MO_keep_0 : decode prog_8_method_29_code 0 = .ok (.iload_n 1, 1) := by decide +kernel
theorem nd_MO_keep_1 : decode prog_8_method_29_code 1 = .ok (.invokestatic 115, 3) := by decide +kernel
theorem nd_MO_keep_4 : decode prog_8_method_29_code 4 = .ok (.ifCond .ne 5, 3) := by decide +kernel
theorem nd_MO_keep_7 : decode prog_8_method_29_code 7 = .ok (.iconst (-1), 1) := by decide +kernel
theorem nd_MO_keep_8 : decode prog_8_method_29_code 8 = .ok (.ireturn, 1) := by decide +kernel
theorem nd_MO_keep_9 : decode prog_8_method_29_code 9 = .ok (.iconst 0, 1) := by decide +kernel
theorem nd_MO_keep_10 : decode prog_8_method_29_code 10 = .ok (.istore_n 2, 1) := by decide +kernel
theorem nd_MO_keep_11 : decode prog_8_method_29_code 11 = .ok (.iload_n 2, 1) := by decide +kernel
theorem nd_MO_keep_12 : decode prog_8_method_29_code 12 = .ok (.bipush 33, 2) := by decide +kernel
theorem nd_MO_keep_14 : decode prog_8_method_29_code 14 = .ok (.if_icmp .ge 31, 3) := by decide +kernel
theorem nd_MO_keep_17 : decode prog_8_method_29_code 17 = .ok (.aload_n 0, 1) := by decide +kernel
theorem nd_MO_keep_18 : decode prog_8_method_29_code 18 = .ok (.getfield 63, 3) := by decide +kernel
theorem nd_MO_keep_21 : decode prog_8_method_29_code 21 = .ok (.bipush 33, 2) := by decide +kernel
theorem nd_MO_keep_23 : decode prog_8_method_29_code 23 = .ok (.iload_n 1, 1) := by decide +kernel
theorem nd_MO_keep_24 : decode prog_8_method_29_code 24 = .ok (.imul, 1) := by decide +kernel
theorem nd_MO_keep_25 : decode prog_8_method_29_code 25 = .ok (.iload_n 2, 1) := by decide +kernel
theorem nd_MO_keep_26 : decode prog_8_method_29_code 26 = .ok (.iadd, 1) := by decide +kernel
theorem nd_MO_keep_27 : decode prog_8_method_29_code 27 = .ok (.aload_n 0, 1) := by decide +kernel
theorem nd_MO_keep_28 : decode prog_8_method_29_code 28 = .ok (.getfield 60, 3) := by decide +kernel
theorem nd_MO_keep_31 : decode prog_8_method_29_code 31 = .ok (.bipush 33, 2) := by decide +kernel
theorem nd_MO_keep_33 : decode prog_8_method_29_code 33 = .ok (.iload_n 1, 1) := by decide +kernel
theorem nd_MO_keep_34 : decode prog_8_method_29_code 34 = .ok (.imul, 1) := by decide +kernel
theorem nd_MO_keep_35 : decode prog_8_method_29_code 35 = .ok (.iload_n 2, 1) := by decide +kernel
theorem nd_MO_keep_36 : decode prog_8_method_29_code 36 = .ok (.iadd, 1) := by decide +kernel
theorem nd_MO_keep_37 : decode prog_8_method_29_code 37 = .ok (.iaload, 1) := by decide +kernel
theorem nd_MO_keep_38 : decode prog_8_method_29_code 38 = .ok (.iastore, 1) := by decide +kernel
theorem nd_MO_keep_39 : decode prog_8_method_29_code 39 = .ok (.iinc 2 1, 3) := by decide +kernel
theorem nd_MO_keep_42 : decode prog_8_method_29_code 42 = .ok (.goto (-31), 3) := by decide +kernel
theorem nd_MO_keep_45 : decode prog_8_method_29_code 45 = .ok (.iconst 1, 1) := by decide +kernel
theorem nd_MO_keep_46 : decode prog_8_method_29_code 46 = .ok (.ireturn, 1) := by decide +kernel
theorem nd_MO_end_0 : decode prog_8_method_30_code 0 = .ok (.iload_n 1, 1) := by decide +kernel
theorem nd_MO_end_1 : decode prog_8_method_30_code 1 = .ok (.invokestatic 115, 3) := by decide +kernel
theorem nd_MO_end_4 : decode prog_8_method_30_code 4 = .ok (.ifCond .ne 5, 3) := by decide +kernel
theorem nd_MO_end_7 : decode prog_8_method_30_code 7 = .ok (.iconst (-1), 1) := by decide +kernel
theorem nd_MO_end_8 : decode prog_8_method_30_code 8 = .ok (.ireturn, 1) := by decide +kernel
theorem nd_MO_end_9 : decode prog_8_method_30_code 9 = .ok (.aload_n 0, 1) := by decide +kernel
theorem nd_MO_end_10 : decode prog_8_method_30_code 10 = .ok (.iload_n 1, 1) := by decide +kernel
theorem nd_MO_end_11 : decode prog_8_method_30_code 11 = .ok (.invokevirtual 118, 3) := by decide +kernel
theorem nd_MO_end_14 : decode prog_8_method_30_code 14 = .ok (.iload_n 2, 1) := by decide +kernel
theorem nd_MO_end_15 : decode prog_8_method_30_code 15 = .ok (.tableswitch 117 0 6 #[41, 48, 55, 63, 71, 86, 101], 41) := by decide +kernel
theorem nd_MO_end_56 : decode prog_8_method_30_code 56 = .ok (.aload_n 0, 1) := by decide +kernel
theorem nd_MO_end_57 : decode prog_8_method_30_code 57 = .ok (.getfield 66, 3) := by decide +kernel
theorem nd_MO_end_60 : decode prog_8_method_30_code 60 = .ok (.iconst 4, 1) := by decide +kernel
theorem nd_MO_end_61 : decode prog_8_method_30_code 61 = .ok (.iaload, 1) := by decide +kernel
theorem nd_MO_end_62 : decode prog_8_method_30_code 62 = .ok (.ireturn, 1) := by decide +kernel
theorem nd_MO_end_63 : decode prog_8_method_30_code 63 = .ok (.aload_n 0, 1) := by decide +kernel
theorem nd_MO_end_64 : decode prog_8_method_30_code 64 = .ok (.getfield 66, 3) := by decide +kernel
theorem nd_MO_end_67 : decode prog_8_method_30_code 67 = .ok (.iconst 5, 1) := by decide +kernel
theorem nd_MO_end_68 : decode prog_8_method_30_code 68 = .ok (.iaload, 1) := by decide +kernel
theorem nd_MO_end_69 : decode prog_8_method_30_code 69 = .ok (.ireturn, 1) := by decide +kernel
theorem nd_MO_end_70 : decode prog_8_method_30_code 70 = .ok (.aload_n 0, 1) := by decide +kernel
theorem nd_MO_end_71 : decode prog_8_method_30_code 71 = .ok (.getfield 66, 3) := by decide +kernel
theorem nd_MO_end_74 : decode prog_8_method_30_code 74 = .ok (.bipush 7, 2) := by decide +kernel
theorem nd_MO_end_76 : decode prog_8_method_30_code 76 = .ok (.iaload, 1) := by decide +kernel
theorem nd_MO_end_77 : decode prog_8_method_30_code 77 = .ok (.ireturn, 1) := by decide +kernel
theorem nd_MO_end_78 : decode prog_8_method_30_code 78 = .ok (.aload_n 0, 1) := by decide +kernel
theorem nd_MO_end_79 : decode prog_8_method_30_code 79 = .ok (.getfield 66, 3) := by decide +kernel
theorem nd_MO_end_82 : decode prog_8_method_30_code 82 = .ok (.bipush 8, 2) := by decide +kernel
theorem nd_MO_end_84 : decode prog_8_method_30_code 84 = .ok (.iaload, 1) := by decide +kernel
theorem nd_MO_end_85 : decode prog_8_method_30_code 85 = .ok (.ireturn, 1) := by decide +kernel
theorem nd_MO_end_86 : decode prog_8_method_30_code 86 = .ok (.aload_n 0, 1) := by decide +kernel
theorem nd_MO_end_87 : decode prog_8_method_30_code 87 = .ok (.getfield 66, 3) := by decide +kernel
theorem nd_MO_end_90 : decode prog_8_method_30_code 90 = .ok (.iconst 2, 1) := by decide +kernel
theorem nd_MO_end_91 : decode prog_8_method_30_code 91 = .ok (.iaload, 1) := by decide +kernel
theorem nd_MO_end_92 : decode prog_8_method_30_code 92 = .ok (.ifCond .eq 7, 3) := by decide +kernel
theorem nd_MO_end_95 : decode prog_8_method_30_code 95 = .ok (.iconst 1, 1) := by decide +kernel
theorem nd_MO_end_96 : decode prog_8_method_30_code 96 = .ok (.goto 4, 3) := by decide +kernel
theorem nd_MO_end_99 : decode prog_8_method_30_code 99 = .ok (.iconst 0, 1) := by decide +kernel
theorem nd_MO_end_100 : decode prog_8_method_30_code 100 = .ok (.ireturn, 1) := by decide +kernel
theorem nd_MO_end_101 : decode prog_8_method_30_code 101 = .ok (.aload_n 0, 1) := by decide +kernel
theorem nd_MO_end_102 : decode prog_8_method_30_code 102 = .ok (.getfield 66, 3) := by decide +kernel
theorem nd_MO_end_105 : decode prog_8_method_30_code 105 = .ok (.iconst 3, 1) := by decide +kernel
theorem nd_MO_end_106 : decode prog_8_method_30_code 106 = .ok (.iaload, 1) := by decide +kernel
theorem nd_MO_end_107 : decode prog_8_method_30_code 107 = .ok (.ifCond .eq 7, 3) := by decide +kernel
theorem nd_MO_end_110 : decode prog_8_method_30_code 110 = .ok (.iconst 1, 1) := by decide +kernel
theorem nd_MO_end_111 : decode prog_8_method_30_code 111 = .ok (.goto 4, 3) := by decide +kernel
theorem nd_MO_end_114 : decode prog_8_method_30_code 114 = .ok (.iconst 0, 1) := by decide +kernel
theorem nd_MO_end_115 : decode prog_8_method_30_code 115 = .ok (.ireturn, 1) := by decide +kernel
theorem nd_MO_end_116 : decode prog_8_method_30_code 116 = .ok (.aload_n 0, 1) := by decide +kernel
theorem nd_MO_end_117 : decode prog_8_method_30_code 117 = .ok (.getfield 66, 3) := by decide +kernel
theorem nd_MO_end_120 : decode prog_8_method_30_code 120 = .ok (.bipush 6, 2) := by decide +kernel
theorem nd_MO_end_122 : decode prog_8_method_30_code 122 = .ok (.iaload, 1) := by decide +kernel
theorem nd_MO_end_123 : decode prog_8_method_30_code 123 = .ok (.ifCond .eq 7, 3) := by decide +kernel
theorem nd_MO_end_126 : decode prog_8_method_30_code 126 = .ok (.iconst 1, 1) := by decide +kernel
theorem nd_MO_end_127 : decode prog_8_method_30_code 127 = .ok (.goto 4, 3) := by decide +kernel
theorem nd_MO_end_130 : decode prog_8_method_30_code 130 = .ok (.iconst 0, 1) := by decide +kernel
theorem nd_MO_end_131 : decode prog_8_method_30_code 131 = .ok (.ireturn, 1) := by decide +kernel
theorem nd_MO_end_132 : decode prog_8_method_30_code 132 = .ok (.iconst (-1), 1) := by decide +kernel
theorem nd_MO_end_133 : decode prog_8_method_30_code 133 = .ok (.ireturn, 1) := by decide +kernel
theorem nd_MO_agree_0 : decode prog_8_method_31_code 0 = .ok (.aload_n 0, 1) := by decide +kernel
theorem nd_MO_agree_1 : decode prog_8_method_31_code 1 = .ok (.getfield 60, 3) := by decide +kernel
theorem nd_MO_agree_4 : decode prog_8_method_31_code 4 = .ok (.iconst 0, 1) := by decide +kernel
theorem nd_MO_agree_5 : decode prog_8_method_31_code 5 = .ok (.iaload, 1) := by decide +kernel
theorem nd_MO_agree_6 : decode prog_8_method_31_code 6 = .ok (.aload_n 0, 1) := by decide +kernel
theorem nd_MO_agree_7 : decode prog_8_method_31_code 7 = .ok (.getfield 60, 3) := by decide +kernel
theorem nd_MO_agree_10 : decode prog_8_method_31_code 10 = .ok (.bipush 33, 2) := by decide +kernel
theorem nd_MO_agree_12 : decode prog_8_method_31_code 12 = .ok (.iaload, 1) := by decide +kernel
theorem nd_MO_agree_13 : decode prog_8_method_31_code 13 = .ok (.if_icmp .ne 7, 3) := by decide +kernel
theorem nd_MO_agree_16 : decode prog_8_method_31_code 16 = .ok (.iconst 1, 1) := by decide +kernel
theorem nd_MO_agree_17 : decode prog_8_method_31_code 17 = .ok (.goto 4, 3) := by decide +kernel
theorem nd_MO_agree_20 : decode prog_8_method_31_code 20 = .ok (.iconst 0, 1) := by decide +kernel
theorem nd_MO_agree_21 : decode prog_8_method_31_code 21 = .ok (.ireturn, 1) := by decide +kernel
theorem nd_MO_count_0 : decode prog_8_method_32_code 0 = .ok (.iload_n 1, 1) := by decide +kernel
theorem nd_MO_count_1 : decode prog_8_method_32_code 1 = .ok (.ifCond .ne 10, 3) := by decide +kernel
theorem nd_MO_count_4 : decode prog_8_method_32_code 4 = .ok (.aload_n 0, 1) := by decide +kernel
theorem nd_MO_count_5 : decode prog_8_method_32_code 5 = .ok (.getfield 128, 3) := by decide +kernel
theorem nd_MO_count_8 : decode prog_8_method_32_code 8 = .ok (.goto 16, 3) := by decide +kernel
theorem nd_MO_count_11 : decode prog_8_method_32_code 11 = .ok (.iload_n 1, 1) := by decide +kernel
theorem nd_MO_count_12 : decode prog_8_method_32_code 12 = .ok (.iconst 1, 1) := by decide +kernel
theorem nd_MO_count_13 : decode prog_8_method_32_code 13 = .ok (.if_icmp .ne 10, 3) := by decide +kernel
theorem nd_MO_count_16 : decode prog_8_method_32_code 16 = .ok (.aload_n 0, 1) := by decide +kernel
theorem nd_MO_count_17 : decode prog_8_method_32_code 17 = .ok (.getfield 92, 3) := by decide +kernel
theorem nd_MO_count_20 : decode prog_8_method_32_code 20 = .ok (.goto 4, 3) := by decide +kernel
theorem nd_MO_count_23 : decode prog_8_method_32_code 23 = .ok (.iconst (-1), 1) := by decide +kernel
theorem nd_MO_count_24 : decode prog_8_method_32_code 24 = .ok (.ireturn, 1) := by decide +kernel

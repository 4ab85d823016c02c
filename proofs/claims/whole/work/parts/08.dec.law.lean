/-! DECODE ROWS, by program -/
theorem nd_LA_law_0 : decode code 0 = .ok (.new 7, 3) := by decide +kernel
theorem nd_LA_law_3 : decode code 3 = .ok (.dup, 1) := by decide +kernel
theorem nd_LA_law_4 : decode code 4 = .ok (.invokespecial 9, 3) := by decide +kernel
theorem nd_LA_law_7 : decode code 7 = .ok (.astore_n 1, 1) := by decide +kernel
theorem nd_LA_law_8 : decode code 8 = .ok (.new 10, 3) := by decide +kernel
theorem nd_LA_law_11 : decode code 11 = .ok (.dup, 1) := by decide +kernel
theorem nd_LA_law_12 : decode code 12 = .ok (.invokespecial 12, 3) := by decide +kernel
theorem nd_LA_law_15 : decode code 15 = .ok (.astore_n 2, 1) := by decide +kernel
theorem nd_LA_law_16 : decode code 16 = .ok (.iconst 0, 1) := by decide +kernel
theorem nd_LA_law_17 : decode code 17 = .ok (.istore_n 3, 1) := by decide +kernel
theorem nd_LA_law_18 : decode code 18 = .ok (.iload_n 3, 1) := by decide +kernel
theorem nd_LA_law_19 : decode code 19 = .ok (.aload_n 0, 1) := by decide +kernel
theorem nd_LA_law_20 : decode code 20 = .ok (.arraylength, 1) := by decide +kernel
theorem nd_LA_law_21 : decode code 21 = .ok (.iconst 3, 1) := by decide +kernel
theorem nd_LA_law_22 : decode code 22 = .ok (.isub, 1) := by decide +kernel
theorem nd_LA_law_23 : decode code 23 = .ok (.if_icmp .gt 311, 3) := by decide +kernel
theorem nd_LA_law_26 : decode code 26 = .ok (.aload_n 0, 1) := by decide +kernel
theorem nd_LA_law_27 : decode code 27 = .ok (.iload_n 3, 1) := by decide +kernel
theorem nd_LA_law_28 : decode code 28 = .ok (.iaload, 1) := by decide +kernel
theorem nd_LA_law_29 : decode code 29 = .ok (.bipush 15, 2) := by decide +kernel
theorem nd_LA_law_31 : decode code 31 = .ok (.iand, 1) := by decide +kernel
theorem nd_LA_law_32 : decode code 32 = .ok (.tableswitch 296 0 9 #[56, 79, 112, 135, 158, 181, 204, 227, 260, 273], 56) := by decide +kernel
theorem nd_LA_law_88 : decode code 88 = .ok (.aload_n 1, 1) := by decide +kernel
theorem nd_LA_law_89 : decode code 89 = .ok (.aload_n 0, 1) := by decide +kernel
theorem nd_LA_law_90 : decode code 90 = .ok (.iload_n 3, 1) := by decide +kernel
theorem nd_LA_law_91 : decode code 91 = .ok (.iconst 1, 1) := by decide +kernel
theorem nd_LA_law_92 : decode code 92 = .ok (.iadd, 1) := by decide +kernel
theorem nd_LA_law_93 : decode code 93 = .ok (.iaload, 1) := by decide +kernel
theorem nd_LA_law_94 : decode code 94 = .ok (.invokevirtual 13, 3) := by decide +kernel
theorem nd_LA_law_97 : decode code 97 = .ok (.aload_n 2, 1) := by decide +kernel
theorem nd_LA_law_98 : decode code 98 = .ok (.aload_n 0, 1) := by decide +kernel
theorem nd_LA_law_99 : decode code 99 = .ok (.iload_n 3, 1) := by decide +kernel
theorem nd_LA_law_100 : decode code 100 = .ok (.iconst 1, 1) := by decide +kernel
theorem nd_LA_law_101 : decode code 101 = .ok (.iadd, 1) := by decide +kernel
theorem nd_LA_law_102 : decode code 102 = .ok (.iaload, 1) := by decide +kernel
theorem nd_LA_law_103 : decode code 103 = .ok (.invokevirtual 17, 3) := by decide +kernel
theorem nd_LA_law_106 : decode code 106 = .ok (.if_icmp .eq 222, 3) := by decide +kernel
theorem nd_LA_law_109 : decode code 109 = .ok (.iconst 0, 1) := by decide +kernel
theorem nd_LA_law_110 : decode code 110 = .ok (.ireturn, 1) := by decide +kernel
theorem nd_LA_law_111 : decode code 111 = .ok (.aload_n 1, 1) := by decide +kernel
theorem nd_LA_law_112 : decode code 112 = .ok (.aload_n 0, 1) := by decide +kernel
theorem nd_LA_law_113 : decode code 113 = .ok (.iload_n 3, 1) := by decide +kernel
theorem nd_LA_law_114 : decode code 114 = .ok (.iconst 1, 1) := by decide +kernel
theorem nd_LA_law_115 : decode code 115 = .ok (.iadd, 1) := by decide +kernel
theorem nd_LA_law_116 : decode code 116 = .ok (.iaload, 1) := by decide +kernel
theorem nd_LA_law_117 : decode code 117 = .ok (.aload_n 0, 1) := by decide +kernel
theorem nd_LA_law_118 : decode code 118 = .ok (.iload_n 3, 1) := by decide +kernel
theorem nd_LA_law_119 : decode code 119 = .ok (.iconst 2, 1) := by decide +kernel
theorem nd_LA_law_120 : decode code 120 = .ok (.iadd, 1) := by decide +kernel
theorem nd_LA_law_121 : decode code 121 = .ok (.iaload, 1) := by decide +kernel
theorem nd_LA_law_122 : decode code 122 = .ok (.invokevirtual 18, 3) := by decide +kernel
theorem nd_LA_law_125 : decode code 125 = .ok (.aload_n 2, 1) := by decide +kernel
theorem nd_LA_law_126 : decode code 126 = .ok (.aload_n 0, 1) := by decide +kernel
theorem nd_LA_law_127 : decode code 127 = .ok (.iload_n 3, 1) := by decide +kernel
theorem nd_LA_law_128 : decode code 128 = .ok (.iconst 1, 1) := by decide +kernel
theorem nd_LA_law_129 : decode code 129 = .ok (.iadd, 1) := by decide +kernel
theorem nd_LA_law_130 : decode code 130 = .ok (.iaload, 1) := by decide +kernel
theorem nd_LA_law_131 : decode code 131 = .ok (.aload_n 0, 1) := by decide +kernel
theorem nd_LA_law_132 : decode code 132 = .ok (.iload_n 3, 1) := by decide +kernel
theorem nd_LA_law_133 : decode code 133 = .ok (.iconst 2, 1) := by decide +kernel
theorem nd_LA_law_134 : decode code 134 = .ok (.iadd, 1) := by decide +kernel
theorem nd_LA_law_135 : decode code 135 = .ok (.iaload, 1) := by decide +kernel
theorem nd_LA_law_136 : decode code 136 = .ok (.invokevirtual 22, 3) := by decide +kernel
theorem nd_LA_law_139 : decode code 139 = .ok (.if_icmp .eq 189, 3) := by decide +kernel
theorem nd_LA_law_142 : decode code 142 = .ok (.iconst 0, 1) := by decide +kernel
theorem nd_LA_law_143 : decode code 143 = .ok (.ireturn, 1) := by decide +kernel
theorem nd_LA_law_144 : decode code 144 = .ok (.aload_n 1, 1) := by decide +kernel
theorem nd_LA_law_145 : decode code 145 = .ok (.aload_n 0, 1) := by decide +kernel
theorem nd_LA_law_146 : decode code 146 = .ok (.iload_n 3, 1) := by decide +kernel
theorem nd_LA_law_147 : decode code 147 = .ok (.iconst 1, 1) := by decide +kernel
theorem nd_LA_law_148 : decode code 148 = .ok (.iadd, 1) := by decide +kernel
theorem nd_LA_law_149 : decode code 149 = .ok (.iaload, 1) := by decide +kernel
theorem nd_LA_law_150 : decode code 150 = .ok (.invokevirtual 23, 3) := by decide +kernel
theorem nd_LA_law_153 : decode code 153 = .ok (.aload_n 2, 1) := by decide +kernel
theorem nd_LA_law_154 : decode code 154 = .ok (.aload_n 0, 1) := by decide +kernel
theorem nd_LA_law_155 : decode code 155 = .ok (.iload_n 3, 1) := by decide +kernel
theorem nd_LA_law_156 : decode code 156 = .ok (.iconst 1, 1) := by decide +kernel
theorem nd_LA_law_157 : decode code 157 = .ok (.iadd, 1) := by decide +kernel
theorem nd_LA_law_158 : decode code 158 = .ok (.iaload, 1) := by decide +kernel
theorem nd_LA_law_159 : decode code 159 = .ok (.invokevirtual 26, 3) := by decide +kernel
theorem nd_LA_law_162 : decode code 162 = .ok (.if_icmp .eq 166, 3) := by decide +kernel
theorem nd_LA_law_165 : decode code 165 = .ok (.iconst 0, 1) := by decide +kernel
theorem nd_LA_law_166 : decode code 166 = .ok (.ireturn, 1) := by decide +kernel
theorem nd_LA_law_167 : decode code 167 = .ok (.aload_n 1, 1) := by decide +kernel
theorem nd_LA_law_168 : decode code 168 = .ok (.aload_n 0, 1) := by decide +kernel
theorem nd_LA_law_169 : decode code 169 = .ok (.iload_n 3, 1) := by decide +kernel
theorem nd_LA_law_170 : decode code 170 = .ok (.iconst 1, 1) := by decide +kernel
theorem nd_LA_law_171 : decode code 171 = .ok (.iadd, 1) := by decide +kernel
theorem nd_LA_law_172 : decode code 172 = .ok (.iaload, 1) := by decide +kernel
theorem nd_LA_law_173 : decode code 173 = .ok (.invokevirtual 27, 3) := by decide +kernel
theorem nd_LA_law_176 : decode code 176 = .ok (.aload_n 2, 1) := by decide +kernel
theorem nd_LA_law_177 : decode code 177 = .ok (.aload_n 0, 1) := by decide +kernel
theorem nd_LA_law_178 : decode code 178 = .ok (.iload_n 3, 1) := by decide +kernel
theorem nd_LA_law_179 : decode code 179 = .ok (.iconst 1, 1) := by decide +kernel
theorem nd_LA_law_180 : decode code 180 = .ok (.iadd, 1) := by decide +kernel
theorem nd_LA_law_181 : decode code 181 = .ok (.iaload, 1) := by decide +kernel
theorem nd_LA_law_182 : decode code 182 = .ok (.invokevirtual 30, 3) := by decide +kernel
theorem nd_LA_law_185 : decode code 185 = .ok (.if_icmp .eq 143, 3) := by decide +kernel
theorem nd_LA_law_188 : decode code 188 = .ok (.iconst 0, 1) := by decide +kernel
theorem nd_LA_law_189 : decode code 189 = .ok (.ireturn, 1) := by decide +kernel
theorem nd_LA_law_190 : decode code 190 = .ok (.aload_n 1, 1) := by decide +kernel
theorem nd_LA_law_191 : decode code 191 = .ok (.aload_n 0, 1) := by decide +kernel
theorem nd_LA_law_192 : decode code 192 = .ok (.iload_n 3, 1) := by decide +kernel
theorem nd_LA_law_193 : decode code 193 = .ok (.iconst 1, 1) := by decide +kernel
theorem nd_LA_law_194 : decode code 194 = .ok (.iadd, 1) := by decide +kernel
theorem nd_LA_law_195 : decode code 195 = .ok (.iaload, 1) := by decide +kernel
theorem nd_LA_law_196 : decode code 196 = .ok (.invokevirtual 31, 3) := by decide +kernel
theorem nd_LA_law_199 : decode code 199 = .ok (.aload_n 2, 1) := by decide +kernel
theorem nd_LA_law_200 : decode code 200 = .ok (.aload_n 0, 1) := by decide +kernel
theorem nd_LA_law_201 : decode code 201 = .ok (.iload_n 3, 1) := by decide +kernel
theorem nd_LA_law_202 : decode code 202 = .ok (.iconst 1, 1) := by decide +kernel
theorem nd_LA_law_203 : decode code 203 = .ok (.iadd, 1) := by decide +kernel
theorem nd_LA_law_204 : decode code 204 = .ok (.iaload, 1) := by decide +kernel
theorem nd_LA_law_205 : decode code 205 = .ok (.invokevirtual 34, 3) := by decide +kernel
theorem nd_LA_law_208 : decode code 208 = .ok (.if_icmp .eq 120, 3) := by decide +kernel
theorem nd_LA_law_211 : decode code 211 = .ok (.iconst 0, 1) := by decide +kernel
theorem nd_LA_law_212 : decode code 212 = .ok (.ireturn, 1) := by decide +kernel
theorem nd_LA_law_213 : decode code 213 = .ok (.aload_n 1, 1) := by decide +kernel
theorem nd_LA_law_214 : decode code 214 = .ok (.aload_n 0, 1) := by decide +kernel
theorem nd_LA_law_215 : decode code 215 = .ok (.iload_n 3, 1) := by decide +kernel
theorem nd_LA_law_216 : decode code 216 = .ok (.iconst 1, 1) := by decide +kernel
theorem nd_LA_law_217 : decode code 217 = .ok (.iadd, 1) := by decide +kernel
theorem nd_LA_law_218 : decode code 218 = .ok (.iaload, 1) := by decide +kernel
theorem nd_LA_law_219 : decode code 219 = .ok (.invokevirtual 35, 3) := by decide +kernel
theorem nd_LA_law_222 : decode code 222 = .ok (.aload_n 2, 1) := by decide +kernel
theorem nd_LA_law_223 : decode code 223 = .ok (.aload_n 0, 1) := by decide +kernel
theorem nd_LA_law_224 : decode code 224 = .ok (.iload_n 3, 1) := by decide +kernel
theorem nd_LA_law_225 : decode code 225 = .ok (.iconst 1, 1) := by decide +kernel
theorem nd_LA_law_226 : decode code 226 = .ok (.iadd, 1) := by decide +kernel
theorem nd_LA_law_227 : decode code 227 = .ok (.iaload, 1) := by decide +kernel
theorem nd_LA_law_228 : decode code 228 = .ok (.invokevirtual 38, 3) := by decide +kernel
theorem nd_LA_law_231 : decode code 231 = .ok (.if_icmp .eq 97, 3) := by decide +kernel
theorem nd_LA_law_234 : decode code 234 = .ok (.iconst 0, 1) := by decide +kernel
theorem nd_LA_law_235 : decode code 235 = .ok (.ireturn, 1) := by decide +kernel
theorem nd_LA_law_236 : decode code 236 = .ok (.aload_n 1, 1) := by decide +kernel
theorem nd_LA_law_237 : decode code 237 = .ok (.aload_n 0, 1) := by decide +kernel
theorem nd_LA_law_238 : decode code 238 = .ok (.iload_n 3, 1) := by decide +kernel
theorem nd_LA_law_239 : decode code 239 = .ok (.iconst 1, 1) := by decide +kernel
theorem nd_LA_law_240 : decode code 240 = .ok (.iadd, 1) := by decide +kernel
theorem nd_LA_law_241 : decode code 241 = .ok (.iaload, 1) := by decide +kernel
theorem nd_LA_law_242 : decode code 242 = .ok (.invokevirtual 39, 3) := by decide +kernel
theorem nd_LA_law_245 : decode code 245 = .ok (.aload_n 2, 1) := by decide +kernel
theorem nd_LA_law_246 : decode code 246 = .ok (.aload_n 0, 1) := by decide +kernel
theorem nd_LA_law_247 : decode code 247 = .ok (.iload_n 3, 1) := by decide +kernel
theorem nd_LA_law_248 : decode code 248 = .ok (.iconst 1, 1) := by decide +kernel
theorem nd_LA_law_249 : decode code 249 = .ok (.iadd, 1) := by decide +kernel
theorem nd_LA_law_250 : decode code 250 = .ok (.iaload, 1) := by decide +kernel
theorem nd_LA_law_251 : decode code 251 = .ok (.invokevirtual 42, 3) := by decide +kernel
theorem nd_LA_law_254 : decode code 254 = .ok (.if_icmp .eq 74, 3) := by decide +kernel
theorem nd_LA_law_257 : decode code 257 = .ok (.iconst 0, 1) := by decide +kernel
theorem nd_LA_law_258 : decode code 258 = .ok (.ireturn, 1) := by decide +kernel
theorem nd_LA_law_259 : decode code 259 = .ok (.aload_n 1, 1) := by decide +kernel
theorem nd_LA_law_260 : decode code 260 = .ok (.aload_n 0, 1) := by decide +kernel
theorem nd_LA_law_261 : decode code 261 = .ok (.iload_n 3, 1) := by decide +kernel
theorem nd_LA_law_262 : decode code 262 = .ok (.iconst 1, 1) := by decide +kernel
theorem nd_LA_law_263 : decode code 263 = .ok (.iadd, 1) := by decide +kernel
theorem nd_LA_law_264 : decode code 264 = .ok (.iaload, 1) := by decide +kernel
theorem nd_LA_law_265 : decode code 265 = .ok (.aload_n 0, 1) := by decide +kernel
theorem nd_LA_law_266 : decode code 266 = .ok (.iload_n 3, 1) := by decide +kernel
theorem nd_LA_law_267 : decode code 267 = .ok (.iconst 2, 1) := by decide +kernel
theorem nd_LA_law_268 : decode code 268 = .ok (.iadd, 1) := by decide +kernel
theorem nd_LA_law_269 : decode code 269 = .ok (.iaload, 1) := by decide +kernel
theorem nd_LA_law_270 : decode code 270 = .ok (.invokevirtual 43, 3) := by decide +kernel
theorem nd_LA_law_273 : decode code 273 = .ok (.aload_n 2, 1) := by decide +kernel
theorem nd_LA_law_274 : decode code 274 = .ok (.aload_n 0, 1) := by decide +kernel
theorem nd_LA_law_275 : decode code 275 = .ok (.iload_n 3, 1) := by decide +kernel
theorem nd_LA_law_276 : decode code 276 = .ok (.iconst 1, 1) := by decide +kernel
theorem nd_LA_law_277 : decode code 277 = .ok (.iadd, 1) := by decide +kernel
theorem nd_LA_law_278 : decode code 278 = .ok (.iaload, 1) := by decide +kernel
theorem nd_LA_law_279 : decode code 279 = .ok (.aload_n 0, 1) := by decide +kernel
theorem nd_LA_law_280 : decode code 280 = .ok (.iload_n 3, 1) := by decide +kernel
theorem nd_LA_law_281 : decode code 281 = .ok (.iconst 2, 1) := by decide +kernel
theorem nd_LA_law_282 : decode code 282 = .ok (.iadd, 1) := by decide +kernel
theorem nd_LA_law_283 : decode code 283 = .ok (.iaload, 1) := by decide +kernel
theorem nd_LA_law_284 : decode code 284 = .ok (.invokevirtual 46, 3) := by decide +kernel
theorem nd_LA_law_287 : decode code 287 = .ok (.if_icmp .eq 41, 3) := by decide +kernel
theorem nd_LA_law_290 : decode code 290 = .ok (.iconst 0, 1) := by decide +kernel
theorem nd_LA_law_291 : decode code 291 = .ok (.ireturn, 1) := by decide +kernel
theorem nd_LA_law_292 : decode code 292 = .ok (.aload_n 1, 1) := by decide +kernel
theorem nd_LA_law_293 : decode code 293 = .ok (.invokevirtual 47, 3) := by decide +kernel
theorem nd_LA_law_296 : decode code 296 = .ok (.aload_n 2, 1) := by decide +kernel
theorem nd_LA_law_297 : decode code 297 = .ok (.invokevirtual 51, 3) := by decide +kernel
theorem nd_LA_law_300 : decode code 300 = .ok (.if_icmp .eq 28, 3) := by decide +kernel
theorem nd_LA_law_303 : decode code 303 = .ok (.iconst 0, 1) := by decide +kernel
theorem nd_LA_law_304 : decode code 304 = .ok (.ireturn, 1) := by decide +kernel
theorem nd_LA_law_305 : decode code 305 = .ok (.aload_n 1, 1) := by decide +kernel
theorem nd_LA_law_306 : decode code 306 = .ok (.aload_n 0, 1) := by decide +kernel
theorem nd_LA_law_307 : decode code 307 = .ok (.iload_n 3, 1) := by decide +kernel
theorem nd_LA_law_308 : decode code 308 = .ok (.iconst 1, 1) := by decide +kernel
theorem nd_LA_law_309 : decode code 309 = .ok (.iadd, 1) := by decide +kernel
theorem nd_LA_law_310 : decode code 310 = .ok (.iaload, 1) := by decide +kernel
theorem nd_LA_law_311 : decode code 311 = .ok (.invokevirtual 52, 3) := by decide +kernel
theorem nd_LA_law_314 : decode code 314 = .ok (.aload_n 2, 1) := by decide +kernel
theorem nd_LA_law_315 : decode code 315 = .ok (.aload_n 0, 1) := by decide +kernel
theorem nd_LA_law_316 : decode code 316 = .ok (.iload_n 3, 1) := by decide +kernel
theorem nd_LA_law_317 : decode code 317 = .ok (.iconst 1, 1) := by decide +kernel
theorem nd_LA_law_318 : decode code 318 = .ok (.iadd, 1) := by decide +kernel
theorem nd_LA_law_319 : decode code 319 = .ok (.iaload, 1) := by decide +kernel
theorem nd_LA_law_320 : decode code 320 = .ok (.invokevirtual 55, 3) := by decide +kernel
theorem nd_LA_law_323 : decode code 323 = .ok (.if_icmp .eq 5, 3) := by decide +kernel
theorem nd_LA_law_326 : decode code 326 = .ok (.iconst 0, 1) := by decide +kernel
theorem nd_LA_law_327 : decode code 327 = .ok (.ireturn, 1) := by decide +kernel
theorem nd_LA_law_328 : decode code 328 = .ok (.iinc 3 3, 3) := by decide +kernel
theorem nd_LA_law_331 : decode code 331 = .ok (.goto (-313), 3) := by decide +kernel
theorem nd_LA_law_334 : decode code 334 = .ok (.iconst 1, 1) := by decide +kernel
theorem nd_LA_law_335 : decode code 335 = .ok (.ireturn, 1) := by decide +kernel

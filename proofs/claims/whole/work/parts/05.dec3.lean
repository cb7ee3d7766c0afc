theorem dX10_look_81 : decode cX10_look 81 = .ok (.bipush 6, 2) := by decide +kernel
theorem dX10_look_83 : decode cX10_look 83 = .ok (.iload 6, 2) := by decide +kernel
theorem dX10_look_85 : decode cX10_look 85 = .ok (.imul, 1) := by decide +kernel
theorem dX10_look_86 : decode cX10_look 86 = .ok (.iload 7, 2) := by decide +kernel
theorem dX10_look_88 : decode cX10_look 88 = .ok (.iadd, 1) := by decide +kernel
theorem dX10_look_89 : decode cX10_look 89 = .ok (.iconst 1, 1) := by decide +kernel
theorem dX10_look_90 : decode cX10_look 90 = .ok (.iadd, 1) := by decide +kernel
theorem dX10_look_91 : decode cX10_look 91 = .ok (.laload, 1) := by decide +kernel
theorem dX10_look_92 : decode cX10_look 92 = .ok (.lload_n 2, 1) := by decide +kernel
theorem dX10_look_93 : decode cX10_look 93 = .ok (.lcmp, 1) := by decide +kernel
theorem dX10_look_94 : decode cX10_look 94 = .ok (.ifCond .gt 9, 3) := by decide +kernel
theorem dX10_look_97 : decode cX10_look 97 = .ok (.iinc 7 1, 3) := by decide +kernel
theorem dX10_look_100 : decode cX10_look 100 = .ok (.goto (-37), 3) := by decide +kernel
theorem dX10_look_103 : decode cX10_look 103 = .ok (.aload_n 0, 1) := by decide +kernel
theorem dX10_look_104 : decode cX10_look 104 = .ok (.getfield 216, 3) := by decide +kernel
theorem dX10_look_107 : decode cX10_look 107 = .ok (.bipush 6, 2) := by decide +kernel
theorem dX10_look_109 : decode cX10_look 109 = .ok (.iload 6, 2) := by decide +kernel
theorem dX10_look_111 : decode cX10_look 111 = .ok (.imul, 1) := by decide +kernel
theorem dX10_look_112 : decode cX10_look 112 = .ok (.iload 7, 2) := by decide +kernel
theorem dX10_look_114 : decode cX10_look 114 = .ok (.iadd, 1) := by decide +kernel
theorem dX10_look_115 : decode cX10_look 115 = .ok (.iaload, 1) := by decide +kernel
theorem dX10_look_116 : decode cX10_look 116 = .ok (.istore 6, 2) := by decide +kernel
theorem dX10_look_118 : decode cX10_look 118 = .ok (.goto (-80), 3) := by decide +kernel
theorem dX10_look_121 : decode cX10_look 121 = .ok (.aload_n 0, 1) := by decide +kernel
theorem dX10_look_122 : decode cX10_look 122 = .ok (.iconst (-1), 1) := by decide +kernel
theorem dX10_look_123 : decode cX10_look 123 = .ok (.putfield 34, 3) := by decide +kernel
theorem dX10_look_126 : decode cX10_look 126 = .ok (.bipush 6, 2) := by decide +kernel
theorem dX10_look_128 : decode cX10_look 128 = .ok (.iload 6, 2) := by decide +kernel
theorem dX10_look_130 : decode cX10_look 130 = .ok (.imul, 1) := by decide +kernel
theorem dX10_look_131 : decode cX10_look 131 = .ok (.istore 7, 2) := by decide +kernel
theorem dX10_look_133 : decode cX10_look 133 = .ok (.iload 7, 2) := by decide +kernel
theorem dX10_look_135 : decode cX10_look 135 = .ok (.bipush 6, 2) := by decide +kernel
theorem dX10_look_137 : decode cX10_look 137 = .ok (.iload 6, 2) := by decide +kernel
theorem dX10_look_139 : decode cX10_look 139 = .ok (.imul, 1) := by decide +kernel
theorem dX10_look_140 : decode cX10_look 140 = .ok (.aload_n 0, 1) := by decide +kernel
theorem dX10_look_141 : decode cX10_look 141 = .ok (.getfield 203, 3) := by decide +kernel
theorem dX10_look_144 : decode cX10_look 144 = .ok (.iload 6, 2) := by decide +kernel
theorem dX10_look_146 : decode cX10_look 146 = .ok (.iaload, 1) := by decide +kernel
theorem dX10_look_147 : decode cX10_look 147 = .ok (.iadd, 1) := by decide +kernel
theorem dX10_look_148 : decode cX10_look 148 = .ok (.if_icmp .ge 71, 3) := by decide +kernel
theorem dX10_look_151 : decode cX10_look 151 = .ok (.aload_n 0, 1) := by decide +kernel
theorem dX10_look_152 : decode cX10_look 152 = .ok (.getfield 206, 3) := by decide +kernel
theorem dX10_look_155 : decode cX10_look 155 = .ok (.iload 7, 2) := by decide +kernel
theorem dX10_look_157 : decode cX10_look 157 = .ok (.laload, 1) := by decide +kernel
theorem dX10_look_158 : decode cX10_look 158 = .ok (.lload_n 2, 1) := by decide +kernel
theorem dX10_look_159 : decode cX10_look 159 = .ok (.lcmp, 1) := by decide +kernel
theorem dX10_look_160 : decode cX10_look 160 = .ok (.ifCond .eq 6, 3) := by decide +kernel
theorem dX10_look_163 : decode cX10_look 163 = .ok (.goto 50, 3) := by decide +kernel
theorem dX10_look_166 : decode cX10_look 166 = .ok (.aload_n 0, 1) := by decide +kernel
theorem dX10_look_167 : decode cX10_look 167 = .ok (.aload_n 0, 1) := by decide +kernel
theorem dX10_look_168 : decode cX10_look 168 = .ok (.getfield 209, 3) := by decide +kernel
theorem dX10_look_171 : decode cX10_look 171 = .ok (.iload 7, 2) := by decide +kernel
theorem dX10_look_173 : decode cX10_look 173 = .ok (.iaload, 1) := by decide +kernel
theorem dX10_look_174 : decode cX10_look 174 = .ok (.putfield 34, 3) := by decide +kernel
theorem dX10_look_177 : decode cX10_look 177 = .ok (.iconst 0, 1) := by decide +kernel
theorem dX10_look_178 : decode cX10_look 178 = .ok (.istore 8, 2) := by decide +kernel
theorem dX10_look_180 : decode cX10_look 180 = .ok (.iload 8, 2) := by decide +kernel
theorem dX10_look_182 : decode cX10_look 182 = .ok (.bipush 20, 2) := by decide +kernel
theorem dX10_look_184 : decode cX10_look 184 = .ok (.if_icmp .ge 29, 3) := by decide +kernel
theorem dX10_look_187 : decode cX10_look 187 = .ok (.aload_n 0, 1) := by decide +kernel
theorem dX10_look_188 : decode cX10_look 188 = .ok (.getfield 40, 3) := by decide +kernel
theorem dX10_look_191 : decode cX10_look 191 = .ok (.iload 8, 2) := by decide +kernel
theorem dX10_look_193 : decode cX10_look 193 = .ok (.aload_n 0, 1) := by decide +kernel
theorem dX10_look_194 : decode cX10_look 194 = .ok (.getfield 213, 3) := by decide +kernel
theorem dX10_look_197 : decode cX10_look 197 = .ok (.bipush 20, 2) := by decide +kernel
theorem dX10_look_199 : decode cX10_look 199 = .ok (.iload 7, 2) := by decide +kernel
theorem dX10_look_201 : decode cX10_look 201 = .ok (.imul, 1) := by decide +kernel
theorem dX10_look_202 : decode cX10_look 202 = .ok (.iload 8, 2) := by decide +kernel
theorem dX10_look_204 : decode cX10_look 204 = .ok (.iadd, 1) := by decide +kernel
theorem dX10_look_205 : decode cX10_look 205 = .ok (.baload, 1) := by decide +kernel
theorem dX10_look_206 : decode cX10_look 206 = .ok (.bastore, 1) := by decide +kernel
theorem dX10_look_207 : decode cX10_look 207 = .ok (.iinc 8 1, 3) := by decide +kernel
theorem dX10_look_210 : decode cX10_look 210 = .ok (.goto (-30), 3) := by decide +kernel
theorem dX10_look_213 : decode cX10_look 213 = .ok (.iinc 7 1, 3) := by decide +kernel
theorem dX10_look_216 : decode cX10_look 216 = .ok (.goto (-83), 3) := by decide +kernel
theorem dX10_look_219 : decode cX10_look 219 = .ok (.iload 5, 2) := by decide +kernel
theorem dX10_look_221 : decode cX10_look 221 = .ok (.iconst 1, 1) := by decide +kernel
theorem dX10_look_222 : decode cX10_look 222 = .ok (.isub, 1) := by decide +kernel
theorem dX10_look_223 : decode cX10_look 223 = .ok (.istore 7, 2) := by decide +kernel
theorem dX10_look_225 : decode cX10_look 225 = .ok (.iload 7, 2) := by decide +kernel
theorem dX10_look_227 : decode cX10_look 227 = .ok (.ifCond .lt 100, 3) := by decide +kernel
theorem dX10_look_230 : decode cX10_look 230 = .ok (.bipush 8, 2) := by decide +kernel
theorem dX10_look_232 : decode cX10_look 232 = .ok (.aload_n 0, 1) := by decide +kernel
theorem dX10_look_233 : decode cX10_look 233 = .ok (.getfield 267, 3) := by decide +kernel
theorem dX10_look_236 : decode cX10_look 236 = .ok (.iload 7, 2) := by decide +kernel
theorem dX10_look_238 : decode cX10_look 238 = .ok (.iaload, 1) := by decide +kernel
theorem dX10_look_239 : decode cX10_look 239 = .ok (.imul, 1) := by decide +kernel
theorem dX10_look_240 : decode cX10_look 240 = .ok (.istore 8, 2) := by decide +kernel
theorem dX10_look_242 : decode cX10_look 242 = .ok (.iload 8, 2) := by decide +kernel
theorem dX10_look_244 : decode cX10_look 244 = .ok (.bipush 8, 2) := by decide +kernel
theorem dX10_look_246 : decode cX10_look 246 = .ok (.aload_n 0, 1) := by decide +kernel
theorem dX10_look_247 : decode cX10_look 247 = .ok (.getfield 267, 3) := by decide +kernel
theorem dX10_look_250 : decode cX10_look 250 = .ok (.iload 7, 2) := by decide +kernel
theorem dX10_look_252 : decode cX10_look 252 = .ok (.iaload, 1) := by decide +kernel
theorem dX10_look_253 : decode cX10_look 253 = .ok (.imul, 1) := by decide +kernel
theorem dX10_look_254 : decode cX10_look 254 = .ok (.aload_n 0, 1) := by decide +kernel
theorem dX10_look_255 : decode cX10_look 255 = .ok (.getfield 219, 3) := by decide +kernel
theorem dX10_look_258 : decode cX10_look 258 = .ok (.aload_n 0, 1) := by decide +kernel
theorem dX10_look_259 : decode cX10_look 259 = .ok (.getfield 267, 3) := by decide +kernel
theorem dX10_look_262 : decode cX10_look 262 = .ok (.iload 7, 2) := by decide +kernel
theorem dX10_look_264 : decode cX10_look 264 = .ok (.iaload, 1) := by decide +kernel
theorem dX10_look_265 : decode cX10_look 265 = .ok (.iaload, 1) := by decide +kernel
theorem dX10_look_266 : decode cX10_look 266 = .ok (.iadd, 1) := by decide +kernel
theorem dX10_look_267 : decode cX10_look 267 = .ok (.if_icmp .ge 54, 3) := by decide +kernel
theorem dX10_look_270 : decode cX10_look 270 = .ok (.aload_n 0, 1) := by decide +kernel
theorem dX10_look_271 : decode cX10_look 271 = .ok (.getfield 225, 3) := by decide +kernel
theorem dX10_look_274 : decode cX10_look 274 = .ok (.iload 8, 2) := by decide +kernel
theorem dX10_look_276 : decode cX10_look 276 = .ok (.laload, 1) := by decide +kernel
theorem dX10_look_277 : decode cX10_look 277 = .ok (.lload_n 2, 1) := by decide +kernel
theorem dX10_look_278 : decode cX10_look 278 = .ok (.lcmp, 1) := by decide +kernel
theorem dX10_look_279 : decode cX10_look 279 = .ok (.ifCond .gt 33, 3) := by decide +kernel
theorem dX10_look_282 : decode cX10_look 282 = .ok (.lload_n 2, 1) := by decide +kernel
theorem dX10_look_283 : decode cX10_look 283 = .ok (.aload_n 0, 1) := by decide +kernel
theorem dX10_look_284 : decode cX10_look 284 = .ok (.getfield 228, 3) := by decide +kernel
theorem dX10_look_287 : decode cX10_look 287 = .ok (.iload 8, 2) := by decide +kernel
theorem dX10_look_289 : decode cX10_look 289 = .ok (.laload, 1) := by decide +kernel
theorem dX10_look_290 : decode cX10_look 290 = .ok (.lcmp, 1) := by decide +kernel
theorem dX10_look_291 : decode cX10_look 291 = .ok (.ifCond .gt 21, 3) := by decide +kernel
theorem dX10_look_294 : decode cX10_look 294 = .ok (.aload_n 0, 1) := by decide +kernel
theorem dX10_look_295 : decode cX10_look 295 = .ok (.aload_n 0, 1) := by decide +kernel
theorem dX10_look_296 : decode cX10_look 296 = .ok (.getfield 222, 3) := by decide +kernel
theorem dX10_look_299 : decode cX10_look 299 = .ok (.iload 8, 2) := by decide +kernel
theorem dX10_look_301 : decode cX10_look 301 = .ok (.iaload, 1) := by decide +kernel
theorem dX10_look_302 : decode cX10_look 302 = .ok (.invokevirtual 80, 3) := by decide +kernel
theorem dX10_look_305 : decode cX10_look 305 = .ok (.ifCond .eq 7, 3) := by decide +kernel
theorem dX10_look_308 : decode cX10_look 308 = .ok (.iconst 1, 1) := by decide +kernel
theorem dX10_look_309 : decode cX10_look 309 = .ok (.goto 4, 3) := by decide +kernel
theorem dX10_look_312 : decode cX10_look 312 = .ok (.iconst 0, 1) := by decide +kernel
theorem dX10_look_313 : decode cX10_look 313 = .ok (.istore 9, 2) := by decide +kernel
theorem dX10_look_315 : decode cX10_look 315 = .ok (.iinc 8 1, 3) := by decide +kernel
theorem dX10_look_318 : decode cX10_look 318 = .ok (.goto (-76), 3) := by decide +kernel
theorem dX10_look_321 : decode cX10_look 321 = .ok (.iinc 7 (-1), 3) := by decide +kernel
theorem dX10_look_324 : decode cX10_look 324 = .ok (.goto (-99), 3) := by decide +kernel
theorem dX10_look_327 : decode cX10_look 327 = .ok (.aload_n 0, 1) := by decide +kernel
theorem dX10_look_328 : decode cX10_look 328 = .ok (.getfield 34, 3) := by decide +kernel
theorem dX10_look_331 : decode cX10_look 331 = .ok (.iconst (-1), 1) := by decide +kernel
theorem dX10_look_332 : decode cX10_look 332 = .ok (.if_icmp .ne 5, 3) := by decide +kernel
theorem dX10_look_335 : decode cX10_look 335 = .ok (.iconst (-1), 1) := by decide +kernel
theorem dX10_look_336 : decode cX10_look 336 = .ok (.ireturn, 1) := by decide +kernel
theorem dX10_look_337 : decode cX10_look 337 = .ok (.aload_n 0, 1) := by decide +kernel
theorem dX10_look_338 : decode cX10_look 338 = .ok (.aload_n 0, 1) := by decide +kernel
theorem dX10_look_339 : decode cX10_look 339 = .ok (.getfield 34, 3) := by decide +kernel
theorem dX10_look_342 : decode cX10_look 342 = .ok (.putfield 9, 3) := by decide +kernel
theorem dX10_look_345 : decode cX10_look 345 = .ok (.iconst 0, 1) := by decide +kernel
theorem dX10_look_346 : decode cX10_look 346 = .ok (.istore 7, 2) := by decide +kernel
theorem dX10_look_348 : decode cX10_look 348 = .ok (.iload 7, 2) := by decide +kernel
theorem dX10_look_350 : decode cX10_look 350 = .ok (.aload_n 0, 1) := by decide +kernel
theorem dX10_look_351 : decode cX10_look 351 = .ok (.getfield 34, 3) := by decide +kernel
theorem dX10_look_354 : decode cX10_look 354 = .ok (.if_icmp .ge 23, 3) := by decide +kernel
theorem dX10_look_357 : decode cX10_look 357 = .ok (.aload_n 0, 1) := by decide +kernel
theorem dX10_look_358 : decode cX10_look 358 = .ok (.getfield 12, 3) := by decide +kernel
theorem dX10_look_361 : decode cX10_look 361 = .ok (.iload 7, 2) := by decide +kernel
theorem dX10_look_363 : decode cX10_look 363 = .ok (.aload_n 0, 1) := by decide +kernel
theorem dX10_look_364 : decode cX10_look 364 = .ok (.getfield 40, 3) := by decide +kernel
theorem dX10_look_367 : decode cX10_look 367 = .ok (.iload 7, 2) := by decide +kernel
theorem dX10_look_369 : decode cX10_look 369 = .ok (.baload, 1) := by decide +kernel
theorem dX10_look_370 : decode cX10_look 370 = .ok (.bastore, 1) := by decide +kernel
theorem dX10_look_371 : decode cX10_look 371 = .ok (.iinc 7 1, 3) := by decide +kernel
theorem dX10_look_374 : decode cX10_look 374 = .ok (.goto (-26), 3) := by decide +kernel
theorem dX10_look_377 : decode cX10_look 377 = .ok (.aload_n 0, 1) := by decide +kernel
theorem dX10_look_378 : decode cX10_look 378 = .ok (.getfield 34, 3) := by decide +kernel
theorem dX10_look_381 : decode cX10_look 381 = .ok (.ireturn, 1) := by decide +kernel
theorem dX10_release_0 : decode cX10_release 0 = .ok (.aload_n 0, 1) := by decide +kernel
theorem dX10_release_1 : decode cX10_release 1 = .ok (.getfield 90, 3) := by decide +kernel
theorem dX10_release_4 : decode cX10_release 4 = .ok (.ifCond .eq 6, 3) := by decide +kernel
theorem dX10_release_7 : decode cX10_release 7 = .ok (.bipush (-4), 2) := by decide +kernel
theorem dX10_release_9 : decode cX10_release 9 = .ok (.ireturn, 1) := by decide +kernel
theorem dX10_release_10 : decode cX10_release 10 = .ok (.aload_n 0, 1) := by decide +kernel
theorem dX10_release_11 : decode cX10_release 11 = .ok (.iload_n 1, 1) := by decide +kernel
theorem dX10_release_12 : decode cX10_release 12 = .ok (.invokevirtual 397, 3) := by decide +kernel
theorem dX10_release_15 : decode cX10_release 15 = .ok (.istore_n 2, 1) := by decide +kernel
theorem dX10_release_16 : decode cX10_release 16 = .ok (.iload_n 2, 1) := by decide +kernel
theorem dX10_release_17 : decode cX10_release 17 = .ok (.iconst (-1), 1) := by decide +kernel
theorem dX10_release_18 : decode cX10_release 18 = .ok (.if_icmp .ne 5, 3) := by decide +kernel
theorem dX10_release_21 : decode cX10_release 21 = .ok (.iconst (-1), 1) := by decide +kernel
theorem dX10_release_22 : decode cX10_release 22 = .ok (.ireturn, 1) := by decide +kernel
theorem dX10_release_23 : decode cX10_release 23 = .ok (.iload_n 2, 1) := by decide +kernel
theorem dX10_release_24 : decode cX10_release 24 = .ok (.istore_n 3, 1) := by decide +kernel
theorem dX10_release_25 : decode cX10_release 25 = .ok (.iload_n 3, 1) := by decide +kernel
theorem dX10_release_26 : decode cX10_release 26 = .ok (.iconst 1, 1) := by decide +kernel
theorem dX10_release_27 : decode cX10_release 27 = .ok (.iadd, 1) := by decide +kernel
theorem dX10_release_28 : decode cX10_release 28 = .ok (.aload_n 0, 1) := by decide +kernel
theorem dX10_release_29 : decode cX10_release 29 = .ok (.getfield 363, 3) := by decide +kernel
theorem dX10_release_32 : decode cX10_release 32 = .ok (.if_icmp .ge 37, 3) := by decide +kernel
theorem dX10_release_35 : decode cX10_release 35 = .ok (.aload_n 0, 1) := by decide +kernel
theorem dX10_release_36 : decode cX10_release 36 = .ok (.getfield 252, 3) := by decide +kernel
theorem dX10_release_39 : decode cX10_release 39 = .ok (.iload_n 3, 1) := by decide +kernel
theorem dX10_release_40 : decode cX10_release 40 = .ok (.aload_n 0, 1) := by decide +kernel
theorem dX10_release_41 : decode cX10_release 41 = .ok (.getfield 252, 3) := by decide +kernel
theorem dX10_release_44 : decode cX10_release 44 = .ok (.iload_n 3, 1) := by decide +kernel
theorem dX10_release_45 : decode cX10_release 45 = .ok (.iconst 1, 1) := by decide +kernel
theorem dX10_release_46 : decode cX10_release 46 = .ok (.iadd, 1) := by decide +kernel
theorem dX10_release_47 : decode cX10_release 47 = .ok (.iaload, 1) := by decide +kernel
theorem dX10_release_48 : decode cX10_release 48 = .ok (.iastore, 1) := by decide +kernel
theorem dX10_release_49 : decode cX10_release 49 = .ok (.aload_n 0, 1) := by decide +kernel
theorem dX10_release_50 : decode cX10_release 50 = .ok (.getfield 255, 3) := by decide +kernel
theorem dX10_release_53 : decode cX10_release 53 = .ok (.iload_n 3, 1) := by decide +kernel
theorem dX10_release_54 : decode cX10_release 54 = .ok (.aload_n 0, 1) := by decide +kernel
theorem dX10_release_55 : decode cX10_release 55 = .ok (.getfield 255, 3) := by decide +kernel
theorem dX10_release_58 : decode cX10_release 58 = .ok (.iload_n 3, 1) := by decide +kernel
theorem dX10_release_59 : decode cX10_release 59 = .ok (.iconst 1, 1) := by decide +kernel
theorem dX10_release_60 : decode cX10_release 60 = .ok (.iadd, 1) := by decide +kernel
theorem dX10_release_61 : decode cX10_release 61 = .ok (.iaload, 1) := by decide +kernel
theorem dX10_release_62 : decode cX10_release 62 = .ok (.iastore, 1) := by decide +kernel
theorem dX10_release_63 : decode cX10_release 63 = .ok (.iinc 3 1, 3) := by decide +kernel
theorem dX10_release_66 : decode cX10_release 66 = .ok (.goto (-41), 3) := by decide +kernel
theorem dX10_release_69 : decode cX10_release 69 = .ok (.aload_n 0, 1) := by decide +kernel
theorem dX10_release_70 : decode cX10_release 70 = .ok (.dup, 1) := by decide +kernel
theorem dX10_release_71 : decode cX10_release 71 = .ok (.getfield 363, 3) := by decide +kernel
theorem dX10_release_74 : decode cX10_release 74 = .ok (.iconst 1, 1) := by decide +kernel
theorem dX10_release_75 : decode cX10_release 75 = .ok (.isub, 1) := by decide +kernel
theorem dX10_release_76 : decode cX10_release 76 = .ok (.putfield 363, 3) := by decide +kernel
theorem dX10_release_79 : decode cX10_release 79 = .ok (.aload_n 0, 1) := by decide +kernel
theorem dX10_release_80 : decode cX10_release 80 = .ok (.getfield 363, 3) := by decide +kernel
theorem dX10_release_83 : decode cX10_release 83 = .ok (.ireturn, 1) := by decide +kernel
theorem dX10_pictured_0 : decode cX10_pictured 0 = .ok (.aload_n 0, 1) := by decide +kernel
theorem dX10_pictured_1 : decode cX10_pictured 1 = .ok (.getfield 90, 3) := by decide +kernel
theorem dX10_pictured_4 : decode cX10_pictured 4 = .ok (.ifCond .eq 6, 3) := by decide +kernel
theorem dX10_pictured_7 : decode cX10_pictured 7 = .ok (.bipush (-4), 2) := by decide +kernel
theorem dX10_pictured_9 : decode cX10_pictured 9 = .ok (.ireturn, 1) := by decide +kernel
theorem dX10_pictured_10 : decode cX10_pictured 10 = .ok (.iload_n 1, 1) := by decide +kernel
theorem dX10_pictured_11 : decode cX10_pictured 11 = .ok (.ifCond .lt 20, 3) := by decide +kernel
theorem dX10_pictured_14 : decode cX10_pictured 14 = .ok (.iload_n 1, 1) := by decide +kernel
theorem dX10_pictured_15 : decode cX10_pictured 15 = .ok (.aload_n 0, 1) := by decide +kernel
theorem dX10_pictured_16 : decode cX10_pictured 16 = .ok (.getfield 363, 3) := by decide +kernel
theorem dX10_pictured_19 : decode cX10_pictured 19 = .ok (.if_icmp .ge 12, 3) := by decide +kernel
theorem dX10_pictured_22 : decode cX10_pictured 22 = .ok (.aload_n 0, 1) := by decide +kernel
theorem dX10_pictured_23 : decode cX10_pictured 23 = .ok (.getfield 252, 3) := by decide +kernel
theorem dX10_pictured_26 : decode cX10_pictured 26 = .ok (.iload_n 1, 1) := by decide +kernel
theorem dX10_pictured_27 : decode cX10_pictured 27 = .ok (.iaload, 1) := by decide +kernel
theorem dX10_pictured_28 : decode cX10_pictured 28 = .ok (.goto 4, 3) := by decide +kernel
theorem dX10_pictured_31 : decode cX10_pictured 31 = .ok (.iconst (-1), 1) := by decide +kernel
theorem dX10_pictured_32 : decode cX10_pictured 32 = .ok (.ireturn, 1) := by decide +kernel
theorem dX10_free_0 : decode cX10_free 0 = .ok (.aload_n 0, 1) := by decide +kernel
theorem dX10_free_1 : decode cX10_free 1 = .ok (.getfield 90, 3) := by decide +kernel
theorem dX10_free_4 : decode cX10_free 4 = .ok (.ifCond .eq 8, 3) := by decide +kernel
theorem dX10_free_7 : decode cX10_free 7 = .ok (.bipush (-4), 2) := by decide +kernel
theorem dX10_free_9 : decode cX10_free 9 = .ok (.goto 7, 3) := by decide +kernel
theorem dX10_free_12 : decode cX10_free 12 = .ok (.aload_n 0, 1) := by decide +kernel
theorem dX10_free_13 : decode cX10_free 13 = .ok (.invokevirtual 391, 3) := by decide +kernel
theorem dX10_free_16 : decode cX10_free 16 = .ok (.ireturn, 1) := by decide +kernel
theorem dX10_fall_0 : decode cX10_fall 0 = .ok (.iload_n 1, 1) := by decide +kernel
theorem dX10_fall_1 : decode cX10_fall 1 = .ok (.ifCond .lt 10, 3) := by decide +kernel
theorem dX10_fall_4 : decode cX10_fall 4 = .ok (.iload_n 1, 1) := by decide +kernel
theorem dX10_fall_5 : decode cX10_fall 5 = .ok (.sipush 10000, 3) := by decide +kernel
theorem dX10_fall_8 : decode cX10_fall 8 = .ok (.if_icmp .le 6, 3) := by decide +kernel
theorem dX10_fall_11 : decode cX10_fall 11 = .ok (.bipush (-2), 2) := by decide +kernel
theorem dX10_fall_13 : decode cX10_fall 13 = .ok (.ireturn, 1) := by decide +kernel
theorem dX10_fall_14 : decode cX10_fall 14 = .ok (.aload_n 0, 1) := by decide +kernel
theorem dX10_fall_15 : decode cX10_fall 15 = .ok (.iload_n 1, 1) := by decide +kernel
theorem dX10_fall_16 : decode cX10_fall 16 = .ok (.putfield 369, 3) := by decide +kernel
theorem dX10_fall_19 : decode cX10_fall 19 = .ok (.iload_n 1, 1) := by decide +kernel
theorem dX10_fall_20 : decode cX10_fall 20 = .ok (.ireturn, 1) := by decide +kernel
theorem dX10_crash_0 : decode cX10_crash 0 = .ok (.aload_n 0, 1) := by decide +kernel
theorem dX10_crash_1 : decode cX10_crash 1 = .ok (.getfield 90, 3) := by decide +kernel
theorem dX10_crash_4 : decode cX10_crash 4 = .ok (.ifCond .eq 6, 3) := by decide +kernel
theorem dX10_crash_7 : decode cX10_crash 7 = .ok (.bipush (-4), 2) := by decide +kernel
theorem dX10_crash_9 : decode cX10_crash 9 = .ok (.ireturn, 1) := by decide +kernel
theorem dX10_crash_10 : decode cX10_crash 10 = .ok (.aload_n 0, 1) := by decide +kernel
theorem dX10_crash_11 : decode cX10_crash 11 = .ok (.iconst 1, 1) := by decide +kernel
theorem dX10_crash_12 : decode cX10_crash 12 = .ok (.putfield 90, 3) := by decide +kernel
theorem dX10_crash_15 : decode cX10_crash 15 = .ok (.iconst 0, 1) := by decide +kernel
theorem dX10_crash_16 : decode cX10_crash 16 = .ok (.ireturn, 1) := by decide +kernel
theorem dX10_load_0 : decode cX10_load 0 = .ok (.aload_n 0, 1) := by decide +kernel
theorem dX10_load_1 : decode cX10_load 1 = .ok (.aload_n 0, 1) := by decide +kernel
theorem dX10_load_2 : decode cX10_load 2 = .ok (.getfield 200, 3) := by decide +kernel
theorem dX10_load_5 : decode cX10_load 5 = .ok (.iload_n 1, 1) := by decide +kernel
theorem dX10_load_6 : decode cX10_load 6 = .ok (.baload, 1) := by decide +kernel
theorem dX10_load_7 : decode cX10_load 7 = .ok (.invokevirtual 273, 3) := by decide +kernel
theorem dX10_load_10 : decode cX10_load 10 = .ok (.istore_n 2, 1) := by decide +kernel
theorem dX10_load_11 : decode cX10_load 11 = .ok (.aload_n 0, 1) := by decide +kernel
theorem dX10_load_12 : decode cX10_load 12 = .ok (.getfield 148, 3) := by decide +kernel
theorem dX10_load_15 : decode cX10_load 15 = .ok (.iload_n 2, 1) := by decide +kernel
theorem dX10_load_16 : decode cX10_load 16 = .ok (.iload_n 1, 1) := by decide +kernel
theorem dX10_load_17 : decode cX10_load 17 = .ok (.iastore, 1) := by decide +kernel
theorem dX10_load_18 : decode cX10_load 18 = .ok (.aload_n 0, 1) := by decide +kernel
theorem dX10_load_19 : decode cX10_load 19 = .ok (.getfield 200, 3) := by decide +kernel
theorem dX10_load_22 : decode cX10_load 22 = .ok (.iload_n 1, 1) := by decide +kernel
theorem dX10_load_23 : decode cX10_load 23 = .ok (.baload, 1) := by decide +kernel
theorem dX10_load_24 : decode cX10_load 24 = .ok (.ifCond .eq 103, 3) := by decide +kernel
theorem dX10_load_27 : decode cX10_load 27 = .ok (.iconst (-1), 1) := by decide +kernel
theorem dX10_load_28 : decode cX10_load 28 = .ok (.istore_n 3, 1) := by decide +kernel
theorem dX10_load_29 : decode cX10_load 29 = .ok (.bipush 6, 2) := by decide +kernel
theorem dX10_load_31 : decode cX10_load 31 = .ok (.iload_n 1, 1) := by decide +kernel
theorem dX10_load_32 : decode cX10_load 32 = .ok (.imul, 1) := by decide +kernel
theorem dX10_load_33 : decode cX10_load 33 = .ok (.istore 4, 2) := by decide +kernel
theorem dX10_load_35 : decode cX10_load 35 = .ok (.iload 4, 2) := by decide +kernel
theorem dX10_load_37 : decode cX10_load 37 = .ok (.bipush 6, 2) := by decide +kernel
theorem dX10_load_39 : decode cX10_load 39 = .ok (.iload_n 1, 1) := by decide +kernel
theorem dX10_load_40 : decode cX10_load 40 = .ok (.imul, 1) := by decide +kernel
theorem dX10_load_41 : decode cX10_load 41 = .ok (.aload_n 0, 1) := by decide +kernel
theorem dX10_load_42 : decode cX10_load 42 = .ok (.getfield 203, 3) := by decide +kernel
theorem dX10_load_45 : decode cX10_load 45 = .ok (.iload_n 1, 1) := by decide +kernel
theorem dX10_load_46 : decode cX10_load 46 = .ok (.iaload, 1) := by decide +kernel
theorem dX10_load_47 : decode cX10_load 47 = .ok (.iadd, 1) := by decide +kernel
theorem dX10_load_48 : decode cX10_load 48 = .ok (.if_icmp .ge 77, 3) := by decide +kernel
theorem dX10_load_51 : decode cX10_load 51 = .ok (.aload_n 0, 1) := by decide +kernel
theorem dX10_load_52 : decode cX10_load 52 = .ok (.iload_n 2, 1) := by decide +kernel
theorem dX10_load_53 : decode cX10_load 53 = .ok (.iload_n 3, 1) := by decide +kernel
theorem dX10_load_54 : decode cX10_load 54 = .ok (.aload_n 0, 1) := by decide +kernel
theorem dX10_load_55 : decode cX10_load 55 = .ok (.getfield 206, 3) := by decide +kernel
theorem dX10_load_58 : decode cX10_load 58 = .ok (.iload 4, 2) := by decide +kernel
theorem dX10_load_60 : decode cX10_load 60 = .ok (.laload, 1) := by decide +kernel
theorem dX10_load_61 : decode cX10_load 61 = .ok (.invokevirtual 299, 3) := by decide +kernel
theorem dX10_load_64 : decode cX10_load 64 = .ok (.istore_n 3, 1) := by decide +kernel
theorem dX10_load_65 : decode cX10_load 65 = .ok (.aload_n 0, 1) := by decide +kernel
theorem dX10_load_66 : decode cX10_load 66 = .ok (.getfield 157, 3) := by decide +kernel
theorem dX10_load_69 : decode cX10_load 69 = .ok (.iload_n 3, 1) := by decide +kernel
theorem dX10_load_70 : decode cX10_load 70 = .ok (.aload_n 0, 1) := by decide +kernel
theorem dX10_load_71 : decode cX10_load 71 = .ok (.getfield 209, 3) := by decide +kernel
theorem dX10_load_74 : decode cX10_load 74 = .ok (.iload 4, 2) := by decide +kernel
theorem dX10_load_76 : decode cX10_load 76 = .ok (.iaload, 1) := by decide +kernel
theorem dX10_load_77 : decode cX10_load 77 = .ok (.iastore, 1) := by decide +kernel
theorem dX10_load_78 : decode cX10_load 78 = .ok (.iconst 0, 1) := by decide +kernel
theorem dX10_load_79 : decode cX10_load 79 = .ok (.istore 5, 2) := by decide +kernel
theorem dX10_load_81 : decode cX10_load 81 = .ok (.iload 5, 2) := by decide +kernel
theorem dX10_load_83 : decode cX10_load 83 = .ok (.bipush 20, 2) := by decide +kernel
theorem dX10_load_85 : decode cX10_load 85 = .ok (.if_icmp .ge 34, 3) := by decide +kernel
theorem dX10_load_88 : decode cX10_load 88 = .ok (.aload_n 0, 1) := by decide +kernel
theorem dX10_load_89 : decode cX10_load 89 = .ok (.getfield 161, 3) := by decide +kernel
theorem dX10_load_92 : decode cX10_load 92 = .ok (.bipush 20, 2) := by decide +kernel
theorem dX10_load_94 : decode cX10_load 94 = .ok (.iload_n 3, 1) := by decide +kernel
theorem dX10_load_95 : decode cX10_load 95 = .ok (.imul, 1) := by decide +kernel
theorem dX10_load_96 : decode cX10_load 96 = .ok (.iload 5, 2) := by decide +kernel
theorem dX10_load_98 : decode cX10_load 98 = .ok (.iadd, 1) := by decide +kernel
theorem dX10_load_99 : decode cX10_load 99 = .ok (.aload_n 0, 1) := by decide +kernel
theorem dX10_load_100 : decode cX10_load 100 = .ok (.getfield 213, 3) := by decide +kernel
theorem dX10_load_103 : decode cX10_load 103 = .ok (.bipush 20, 2) := by decide +kernel
theorem dX10_load_105 : decode cX10_load 105 = .ok (.iload 4, 2) := by decide +kernel
theorem dX10_load_107 : decode cX10_load 107 = .ok (.imul, 1) := by decide +kernel
theorem dX10_load_108 : decode cX10_load 108 = .ok (.iload 5, 2) := by decide +kernel
theorem dX10_load_110 : decode cX10_load 110 = .ok (.iadd, 1) := by decide +kernel
theorem dX10_load_111 : decode cX10_load 111 = .ok (.baload, 1) := by decide +kernel
theorem dX10_load_112 : decode cX10_load 112 = .ok (.bastore, 1) := by decide +kernel
theorem dX10_load_113 : decode cX10_load 113 = .ok (.iinc 5 1, 3) := by decide +kernel
theorem dX10_load_116 : decode cX10_load 116 = .ok (.goto (-35), 3) := by decide +kernel
theorem dX10_load_119 : decode cX10_load 119 = .ok (.iinc 4 1, 3) := by decide +kernel
theorem dX10_load_122 : decode cX10_load 122 = .ok (.goto (-87), 3) := by decide +kernel
theorem dX10_load_125 : decode cX10_load 125 = .ok (.iload_n 2, 1) := by decide +kernel
theorem dX10_load_126 : decode cX10_load 126 = .ok (.ireturn, 1) := by decide +kernel
theorem dX10_load_127 : decode cX10_load 127 = .ok (.bipush 8, 2) := by decide +kernel
theorem dX10_load_129 : decode cX10_load 129 = .ok (.iload_n 1, 1) := by decide +kernel
theorem dX10_load_130 : decode cX10_load 130 = .ok (.imul, 1) := by decide +kernel
theorem dX10_load_131 : decode cX10_load 131 = .ok (.istore_n 3, 1) := by decide +kernel
theorem dX10_load_132 : decode cX10_load 132 = .ok (.iload_n 3, 1) := by decide +kernel
theorem dX10_load_133 : decode cX10_load 133 = .ok (.bipush 8, 2) := by decide +kernel
theorem dX10_load_135 : decode cX10_load 135 = .ok (.iload_n 1, 1) := by decide +kernel
theorem dX10_load_136 : decode cX10_load 136 = .ok (.imul, 1) := by decide +kernel
theorem dX10_load_137 : decode cX10_load 137 = .ok (.aload_n 0, 1) := by decide +kernel
theorem dX10_load_138 : decode cX10_load 138 = .ok (.getfield 219, 3) := by decide +kernel
theorem dX10_load_141 : decode cX10_load 141 = .ok (.iload_n 1, 1) := by decide +kernel
theorem dX10_load_142 : decode cX10_load 142 = .ok (.iaload, 1) := by decide +kernel
theorem dX10_load_143 : decode cX10_load 143 = .ok (.iadd, 1) := by decide +kernel
theorem dX10_load_144 : decode cX10_load 144 = .ok (.if_icmp .ge 32, 3) := by decide +kernel
theorem dX10_load_147 : decode cX10_load 147 = .ok (.aload_n 0, 1) := by decide +kernel
theorem dX10_load_148 : decode cX10_load 148 = .ok (.iload_n 2, 1) := by decide +kernel
theorem dX10_load_149 : decode cX10_load 149 = .ok (.aload_n 0, 1) := by decide +kernel
theorem dX10_load_150 : decode cX10_load 150 = .ok (.getfield 222, 3) := by decide +kernel
theorem dX10_load_153 : decode cX10_load 153 = .ok (.iload_n 3, 1) := by decide +kernel
theorem dX10_load_154 : decode cX10_load 154 = .ok (.iaload, 1) := by decide +kernel
theorem dX10_load_155 : decode cX10_load 155 = .ok (.aload_n 0, 1) := by decide +kernel
theorem dX10_load_156 : decode cX10_load 156 = .ok (.getfield 225, 3) := by decide +kernel
theorem dX10_load_159 : decode cX10_load 159 = .ok (.iload_n 3, 1) := by decide +kernel
theorem dX10_load_160 : decode cX10_load 160 = .ok (.laload, 1) := by decide +kernel
theorem dX10_load_161 : decode cX10_load 161 = .ok (.aload_n 0, 1) := by decide +kernel
theorem dX10_load_162 : decode cX10_load 162 = .ok (.getfield 228, 3) := by decide +kernel
theorem dX10_load_165 : decode cX10_load 165 = .ok (.iload_n 3, 1) := by decide +kernel
theorem dX10_load_166 : decode cX10_load 166 = .ok (.laload, 1) := by decide +kernel
theorem dX10_load_167 : decode cX10_load 167 = .ok (.invokevirtual 303, 3) := by decide +kernel
theorem dX10_load_170 : decode cX10_load 170 = .ok (.iinc 3 1, 3) := by decide +kernel
theorem dX10_load_173 : decode cX10_load 173 = .ok (.goto (-41), 3) := by decide +kernel
theorem dX10_load_176 : decode cX10_load 176 = .ok (.aload_n 0, 1) := by decide +kernel
theorem dX10_load_177 : decode cX10_load 177 = .ok (.getfield 148, 3) := by decide +kernel
theorem dX10_load_180 : decode cX10_load 180 = .ok (.iload_n 2, 1) := by decide +kernel
theorem dX10_load_181 : decode cX10_load 181 = .ok (.iload_n 1, 1) := by decide +kernel
theorem dX10_load_182 : decode cX10_load 182 = .ok (.iastore, 1) := by decide +kernel
theorem dX10_load_183 : decode cX10_load 183 = .ok (.aload_n 0, 1) := by decide +kernel
theorem dX10_load_184 : decode cX10_load 184 = .ok (.getfield 129, 3) := by decide +kernel
theorem dX10_load_187 : decode cX10_load 187 = .ok (.iload_n 2, 1) := by decide +kernel
theorem dX10_load_188 : decode cX10_load 188 = .ok (.aload_n 0, 1) := by decide +kernel
theorem dX10_load_189 : decode cX10_load 189 = .ok (.getfield 203, 3) := by decide +kernel
theorem dX10_load_192 : decode cX10_load 192 = .ok (.iload_n 1, 1) := by decide +kernel
theorem dX10_load_193 : decode cX10_load 193 = .ok (.iaload, 1) := by decide +kernel
theorem dX10_load_194 : decode cX10_load 194 = .ok (.iastore, 1) := by decide +kernel
theorem dX10_load_195 : decode cX10_load 195 = .ok (.iconst 0, 1) := by decide +kernel
theorem dX10_load_196 : decode cX10_load 196 = .ok (.istore_n 3, 1) := by decide +kernel
theorem dX10_load_197 : decode cX10_load 197 = .ok (.iload_n 3, 1) := by decide +kernel
theorem dX10_load_198 : decode cX10_load 198 = .ok (.aload_n 0, 1) := by decide +kernel
theorem dX10_load_199 : decode cX10_load 199 = .ok (.getfield 203, 3) := by decide +kernel
theorem dX10_load_202 : decode cX10_load 202 = .ok (.iload_n 1, 1) := by decide +kernel
theorem dX10_load_203 : decode cX10_load 203 = .ok (.iaload, 1) := by decide +kernel
theorem dX10_load_204 : decode cX10_load 204 = .ok (.if_icmp .ge 59, 3) := by decide +kernel
theorem dX10_load_207 : decode cX10_load 207 = .ok (.aload_n 0, 1) := by decide +kernel
theorem dX10_load_208 : decode cX10_load 208 = .ok (.getfield 136, 3) := by decide +kernel
theorem dX10_load_211 : decode cX10_load 211 = .ok (.sipush 128, 3) := by decide +kernel
theorem dX10_load_214 : decode cX10_load 214 = .ok (.iload_n 2, 1) := by decide +kernel
theorem dX10_load_215 : decode cX10_load 215 = .ok (.imul, 1) := by decide +kernel
theorem dX10_load_216 : decode cX10_load 216 = .ok (.iload_n 3, 1) := by decide +kernel
theorem dX10_load_217 : decode cX10_load 217 = .ok (.iadd, 1) := by decide +kernel
theorem dX10_load_218 : decode cX10_load 218 = .ok (.aload_n 0, 1) := by decide +kernel
theorem dX10_load_219 : decode cX10_load 219 = .ok (.getfield 206, 3) := by decide +kernel
theorem dX10_load_222 : decode cX10_load 222 = .ok (.bipush 6, 2) := by decide +kernel
theorem dX10_load_224 : decode cX10_load 224 = .ok (.iload_n 1, 1) := by decide +kernel
theorem dX10_load_225 : decode cX10_load 225 = .ok (.imul, 1) := by decide +kernel
theorem dX10_load_226 : decode cX10_load 226 = .ok (.iload_n 3, 1) := by decide +kernel
theorem dX10_load_227 : decode cX10_load 227 = .ok (.iadd, 1) := by decide +kernel
theorem dX10_load_228 : decode cX10_load 228 = .ok (.laload, 1) := by decide +kernel
theorem dX10_load_229 : decode cX10_load 229 = .ok (.lastore, 1) := by decide +kernel
theorem dX10_load_230 : decode cX10_load 230 = .ok (.aload_n 0, 1) := by decide +kernel
theorem dX10_load_231 : decode cX10_load 231 = .ok (.getfield 133, 3) := by decide +kernel
theorem dX10_load_234 : decode cX10_load 234 = .ok (.sipush 128, 3) := by decide +kernel
theorem dX10_load_237 : decode cX10_load 237 = .ok (.iload_n 2, 1) := by decide +kernel
theorem dX10_load_238 : decode cX10_load 238 = .ok (.imul, 1) := by decide +kernel
theorem dX10_load_239 : decode cX10_load 239 = .ok (.iload_n 3, 1) := by decide +kernel
theorem dX10_load_240 : decode cX10_load 240 = .ok (.iadd, 1) := by decide +kernel
theorem dX10_load_241 : decode cX10_load 241 = .ok (.aload_n 0, 1) := by decide +kernel
theorem dX10_load_242 : decode cX10_load 242 = .ok (.aload_n 0, 1) := by decide +kernel
theorem dX10_load_243 : decode cX10_load 243 = .ok (.getfield 216, 3) := by decide +kernel
theorem dX10_load_246 : decode cX10_load 246 = .ok (.bipush 6, 2) := by decide +kernel
theorem dX10_load_248 : decode cX10_load 248 = .ok (.iload_n 1, 1) := by decide +kernel
theorem dX10_load_249 : decode cX10_load 249 = .ok (.imul, 1) := by decide +kernel
theorem dX10_load_250 : decode cX10_load 250 = .ok (.iload_n 3, 1) := by decide +kernel
theorem dX10_load_251 : decode cX10_load 251 = .ok (.iadd, 1) := by decide +kernel
theorem dX10_load_252 : decode cX10_load 252 = .ok (.iaload, 1) := by decide +kernel
theorem dX10_load_253 : decode cX10_load 253 = .ok (.invokevirtual 400, 3) := by decide +kernel
theorem dX10_load_256 : decode cX10_load 256 = .ok (.iastore, 1) := by decide +kernel
theorem dX10_load_257 : decode cX10_load 257 = .ok (.iinc 3 1, 3) := by decide +kernel
theorem dX10_load_260 : decode cX10_load 260 = .ok (.goto (-63), 3) := by decide +kernel
theorem dX10_load_263 : decode cX10_load 263 = .ok (.iload_n 2, 1) := by decide +kernel
theorem dX10_load_264 : decode cX10_load 264 = .ok (.ireturn, 1) := by decide +kernel
theorem dX10_read_0 : decode cX10_read 0 = .ok (.aload_n 0, 1) := by decide +kernel
theorem dX10_read_1 : decode cX10_read 1 = .ok (.getfield 119, 3) := by decide +kernel
theorem dX10_read_4 : decode cX10_read 4 = .ok (.iload_n 1, 1) := by decide +kernel
theorem dX10_read_5 : decode cX10_read 5 = .ok (.baload, 1) := by decide +kernel
theorem dX10_read_6 : decode cX10_read 6 = .ok (.ifCond .eq 105, 3) := by decide +kernel
theorem dX10_read_9 : decode cX10_read 9 = .ok (.aload_n 0, 1) := by decide +kernel
theorem dX10_read_10 : decode cX10_read 10 = .ok (.getfield 123, 3) := by decide +kernel
theorem dX10_read_13 : decode cX10_read 13 = .ok (.iload_n 1, 1) := by decide +kernel
theorem dX10_read_14 : decode cX10_read 14 = .ok (.iaload, 1) := by decide +kernel
theorem dX10_read_15 : decode cX10_read 15 = .ok (.istore_n 2, 1) := by decide +kernel
theorem dX10_read_16 : decode cX10_read 16 = .ok (.iload_n 2, 1) := by decide +kernel
theorem dX10_read_17 : decode cX10_read 17 = .ok (.iconst (-1), 1) := by decide +kernel
theorem dX10_read_18 : decode cX10_read 18 = .ok (.if_icmp .eq 92, 3) := by decide +kernel
theorem dX10_read_21 : decode cX10_read 21 = .ok (.aload_n 0, 1) := by decide +kernel
theorem dX10_read_22 : decode cX10_read 22 = .ok (.getfield 19, 3) := by decide +kernel
theorem dX10_read_25 : decode cX10_read 25 = .ok (.aload_n 0, 1) := by decide +kernel
theorem dX10_read_26 : decode cX10_read 26 = .ok (.getfield 16, 3) := by decide +kernel
theorem dX10_read_29 : decode cX10_read 29 = .ok (.aload_n 0, 1) := by decide +kernel
theorem dX10_read_30 : decode cX10_read 30 = .ok (.getfield 154, 3) := by decide +kernel
theorem dX10_read_33 : decode cX10_read 33 = .ok (.iload_n 2, 1) := by decide +kernel
theorem dX10_read_34 : decode cX10_read 34 = .ok (.laload, 1) := by decide +kernel
theorem dX10_read_35 : decode cX10_read 35 = .ok (.lastore, 1) := by decide +kernel
theorem dX10_read_36 : decode cX10_read 36 = .ok (.aload_n 0, 1) := by decide +kernel
theorem dX10_read_37 : decode cX10_read 37 = .ok (.getfield 27, 3) := by decide +kernel
theorem dX10_read_40 : decode cX10_read 40 = .ok (.aload_n 0, 1) := by decide +kernel
theorem dX10_read_41 : decode cX10_read 41 = .ok (.getfield 16, 3) := by decide +kernel
theorem dX10_read_44 : decode cX10_read 44 = .ok (.aload_n 0, 1) := by decide +kernel
theorem dX10_read_45 : decode cX10_read 45 = .ok (.getfield 157, 3) := by decide +kernel
theorem dX10_read_48 : decode cX10_read 48 = .ok (.iload_n 2, 1) := by decide +kernel
theorem dX10_read_49 : decode cX10_read 49 = .ok (.iaload, 1) := by decide +kernel
theorem dX10_read_50 : decode cX10_read 50 = .ok (.iastore, 1) := by decide +kernel
theorem dX10_read_51 : decode cX10_read 51 = .ok (.iconst 0, 1) := by decide +kernel
theorem dX10_read_52 : decode cX10_read 52 = .ok (.istore_n 3, 1) := by decide +kernel
theorem dX10_read_53 : decode cX10_read 53 = .ok (.iload_n 3, 1) := by decide +kernel
theorem dX10_read_54 : decode cX10_read 54 = .ok (.bipush 20, 2) := by decide +kernel
theorem dX10_read_56 : decode cX10_read 56 = .ok (.if_icmp .ge 34, 3) := by decide +kernel
theorem dX10_read_59 : decode cX10_read 59 = .ok (.aload_n 0, 1) := by decide +kernel
theorem dX10_read_60 : decode cX10_read 60 = .ok (.getfield 31, 3) := by decide +kernel
theorem dX10_read_63 : decode cX10_read 63 = .ok (.bipush 20, 2) := by decide +kernel
theorem dX10_read_65 : decode cX10_read 65 = .ok (.aload_n 0, 1) := by decide +kernel
theorem dX10_read_66 : decode cX10_read 66 = .ok (.getfield 16, 3) := by decide +kernel
theorem dX10_read_69 : decode cX10_read 69 = .ok (.imul, 1) := by decide +kernel
theorem dX10_read_70 : decode cX10_read 70 = .ok (.iload_n 3, 1) := by decide +kernel
theorem dX10_read_71 : decode cX10_read 71 = .ok (.iadd, 1) := by decide +kernel
theorem dX10_read_72 : decode cX10_read 72 = .ok (.aload_n 0, 1) := by decide +kernel
theorem dX10_read_73 : decode cX10_read 73 = .ok (.getfield 161, 3) := by decide +kernel
theorem dX10_read_76 : decode cX10_read 76 = .ok (.bipush 20, 2) := by decide +kernel
theorem dX10_read_78 : decode cX10_read 78 = .ok (.iload_n 2, 1) := by decide +kernel
theorem dX10_read_79 : decode cX10_read 79 = .ok (.imul, 1) := by decide +kernel
theorem dX10_read_80 : decode cX10_read 80 = .ok (.iload_n 3, 1) := by decide +kernel
theorem dX10_read_81 : decode cX10_read 81 = .ok (.iadd, 1) := by decide +kernel
theorem dX10_read_82 : decode cX10_read 82 = .ok (.baload, 1) := by decide +kernel
theorem dX10_read_83 : decode cX10_read 83 = .ok (.bastore, 1) := by decide +kernel
theorem dX10_read_84 : decode cX10_read 84 = .ok (.iinc 3 1, 3) := by decide +kernel
theorem dX10_read_87 : decode cX10_read 87 = .ok (.goto (-34), 3) := by decide +kernel
theorem dX10_read_90 : decode cX10_read 90 = .ok (.aload_n 0, 1) := by decide +kernel
theorem dX10_read_91 : decode cX10_read 91 = .ok (.dup, 1) := by decide +kernel
theorem dX10_read_92 : decode cX10_read 92 = .ok (.getfield 16, 3) := by decide +kernel
theorem dX10_read_95 : decode cX10_read 95 = .ok (.iconst 1, 1) := by decide +kernel
theorem dX10_read_96 : decode cX10_read 96 = .ok (.iadd, 1) := by decide +kernel
theorem dX10_read_97 : decode cX10_read 97 = .ok (.putfield 16, 3) := by decide +kernel
theorem dX10_read_100 : decode cX10_read 100 = .ok (.aload_n 0, 1) := by decide +kernel
theorem dX10_read_101 : decode cX10_read 101 = .ok (.getfield 164, 3) := by decide +kernel
theorem dX10_read_104 : decode cX10_read 104 = .ok (.iload_n 2, 1) := by decide +kernel
theorem dX10_read_105 : decode cX10_read 105 = .ok (.iaload, 1) := by decide +kernel
theorem dX10_read_106 : decode cX10_read 106 = .ok (.istore_n 2, 1) := by decide +kernel
theorem dX10_read_107 : decode cX10_read 107 = .ok (.goto (-91), 3) := by decide +kernel
theorem dX10_read_110 : decode cX10_read 110 = .ok (.return_, 1) := by decide +kernel
theorem dX10_read_111 : decode cX10_read 111 = .ok (.iconst 0, 1) := by decide +kernel
theorem dX10_read_112 : decode cX10_read 112 = .ok (.istore_n 2, 1) := by decide +kernel
theorem dX10_read_113 : decode cX10_read 113 = .ok (.iload_n 2, 1) := by decide +kernel
theorem dX10_read_114 : decode cX10_read 114 = .ok (.aload_n 0, 1) := by decide +kernel
theorem dX10_read_115 : decode cX10_read 115 = .ok (.getfield 129, 3) := by decide +kernel
theorem dX10_read_118 : decode cX10_read 118 = .ok (.iload_n 1, 1) := by decide +kernel
theorem dX10_read_119 : decode cX10_read 119 = .ok (.iaload, 1) := by decide +kernel
theorem dX10_read_120 : decode cX10_read 120 = .ok (.if_icmp .ge 25, 3) := by decide +kernel
theorem dX10_read_123 : decode cX10_read 123 = .ok (.aload_n 0, 1) := by decide +kernel
theorem dX10_read_124 : decode cX10_read 124 = .ok (.aload_n 0, 1) := by decide +kernel
theorem dX10_read_125 : decode cX10_read 125 = .ok (.getfield 133, 3) := by decide +kernel
theorem dX10_read_128 : decode cX10_read 128 = .ok (.sipush 128, 3) := by decide +kernel
theorem dX10_read_131 : decode cX10_read 131 = .ok (.iload_n 1, 1) := by decide +kernel
theorem dX10_read_132 : decode cX10_read 132 = .ok (.imul, 1) := by decide +kernel
theorem dX10_read_133 : decode cX10_read 133 = .ok (.iload_n 2, 1) := by decide +kernel
theorem dX10_read_134 : decode cX10_read 134 = .ok (.iadd, 1) := by decide +kernel
theorem dX10_read_135 : decode cX10_read 135 = .ok (.iaload, 1) := by decide +kernel
theorem dX10_read_136 : decode cX10_read 136 = .ok (.invokevirtual 403, 3) := by decide +kernel
theorem dX10_read_139 : decode cX10_read 139 = .ok (.iinc 2 1, 3) := by decide +kernel
theorem dX10_read_142 : decode cX10_read 142 = .ok (.goto (-29), 3) := by decide +kernel
theorem dX10_read_145 : decode cX10_read 145 = .ok (.aload_n 0, 1) := by decide +kernel
theorem dX10_read_146 : decode cX10_read 146 = .ok (.getfield 139, 3) := by decide +kernel
theorem dX10_read_149 : decode cX10_read 149 = .ok (.iload_n 1, 1) := by decide +kernel
theorem dX10_read_150 : decode cX10_read 150 = .ok (.iaload, 1) := by decide +kernel
theorem dX10_read_151 : decode cX10_read 151 = .ok (.istore_n 2, 1) := by decide +kernel
theorem dX10_read_152 : decode cX10_read 152 = .ok (.iload_n 2, 1) := by decide +kernel
theorem dX10_read_153 : decode cX10_read 153 = .ok (.iconst (-1), 1) := by decide +kernel
theorem dX10_read_154 : decode cX10_read 154 = .ok (.if_icmp .eq 90, 3) := by decide +kernel
theorem dX10_read_157 : decode cX10_read 157 = .ok (.aload_n 0, 1) := by decide +kernel
theorem dX10_read_158 : decode cX10_read 158 = .ok (.getfield 167, 3) := by decide +kernel
theorem dX10_read_161 : decode cX10_read 161 = .ok (.iload_n 2, 1) := by decide +kernel
theorem dX10_read_162 : decode cX10_read 162 = .ok (.iaload, 1) := by decide +kernel
theorem dX10_read_163 : decode cX10_read 163 = .ok (.istore_n 3, 1) := by decide +kernel
theorem dX10_read_164 : decode cX10_read 164 = .ok (.aload_n 0, 1) := by decide +kernel
theorem dX10_read_165 : decode cX10_read 165 = .ok (.getfield 46, 3) := by decide +kernel
theorem dX10_read_168 : decode cX10_read 168 = .ok (.iload_n 3, 1) := by decide +kernel
theorem dX10_read_169 : decode cX10_read 169 = .ok (.iaload, 1) := by decide +kernel
theorem dX10_read_170 : decode cX10_read 170 = .ok (.iconst 5, 1) := by decide +kernel
theorem dX10_read_171 : decode cX10_read 171 = .ok (.if_icmp .ne 56, 3) := by decide +kernel
theorem dX10_read_174 : decode cX10_read 174 = .ok (.aload_n 0, 1) := by decide +kernel
theorem dX10_read_175 : decode cX10_read 175 = .ok (.getfield 173, 3) := by decide +kernel
theorem dX10_read_178 : decode cX10_read 178 = .ok (.iload_n 2, 1) := by decide +kernel
theorem dX10_read_179 : decode cX10_read 179 = .ok (.laload, 1) := by decide +kernel
theorem dX10_read_180 : decode cX10_read 180 = .ok (.ldc2_w 105, 3) := by decide +kernel
theorem dX10_read_183 : decode cX10_read 183 = .ok (.lcmp, 1) := by decide +kernel
theorem dX10_read_184 : decode cX10_read 184 = .ok (.ifCond .ne 10, 3) := by decide +kernel
theorem dX10_read_187 : decode cX10_read 187 = .ok (.aload_n 0, 1) := by decide +kernel
theorem dX10_read_188 : decode cX10_read 188 = .ok (.getfield 16, 3) := by decide +kernel
theorem dX10_read_191 : decode cX10_read 191 = .ok (.goto 15, 3) := by decide +kernel
theorem dX10_read_194 : decode cX10_read 194 = .ok (.aload_n 0, 1) := by decide +kernel
theorem dX10_read_195 : decode cX10_read 195 = .ok (.aload_n 0, 1) := by decide +kernel
theorem dX10_read_196 : decode cX10_read 196 = .ok (.getfield 173, 3) := by decide +kernel
theorem dX10_read_199 : decode cX10_read 199 = .ok (.iload_n 2, 1) := by decide +kernel
theorem dX10_read_200 : decode cX10_read 200 = .ok (.laload, 1) := by decide +kernel
theorem dX10_read_201 : decode cX10_read 201 = .ok (.lconst 1, 1) := by decide +kernel
theorem dX10_read_202 : decode cX10_read 202 = .ok (.ladd, 1) := by decide +kernel
theorem dX10_read_203 : decode cX10_read 203 = .ok (.invokevirtual 72, 3) := by decide +kernel
theorem dX10_read_206 : decode cX10_read 206 = .ok (.istore 4, 2) := by decide +kernel
theorem dX10_read_208 : decode cX10_read 208 = .ok (.aload_n 0, 1) := by decide +kernel
theorem dX10_read_209 : decode cX10_read 209 = .ok (.aload_n 0, 1) := by decide +kernel
theorem dX10_read_210 : decode cX10_read 210 = .ok (.aload_n 0, 1) := by decide +kernel
theorem dX10_read_211 : decode cX10_read 211 = .ok (.getfield 170, 3) := by decide +kernel
theorem dX10_read_214 : decode cX10_read 214 = .ok (.iload_n 2, 1) := by decide +kernel
theorem dX10_read_215 : decode cX10_read 215 = .ok (.laload, 1) := by decide +kernel
theorem dX10_read_216 : decode cX10_read 216 = .ok (.invokevirtual 72, 3) := by decide +kernel
theorem dX10_read_219 : decode cX10_read 219 = .ok (.iload 4, 2) := by decide +kernel
theorem dX10_read_221 : decode cX10_read 221 = .ok (.invokevirtual 83, 3) := by decide +kernel
theorem dX10_read_224 : decode cX10_read 224 = .ok (.goto 10, 3) := by decide +kernel
theorem dX10_read_227 : decode cX10_read 227 = .ok (.aload_n 0, 1) := by decide +kernel
theorem dX10_read_228 : decode cX10_read 228 = .ok (.iload_n 3, 1) := by decide +kernel
theorem dX10_read_229 : decode cX10_read 229 = .ok (.invokevirtual 98, 3) := by decide +kernel
theorem dX10_read_232 : decode cX10_read 232 = .ok (.istore 4, 2) := by decide +kernel
theorem dX10_read_234 : decode cX10_read 234 = .ok (.aload_n 0, 1) := by decide +kernel
theorem dX10_read_235 : decode cX10_read 235 = .ok (.getfield 176, 3) := by decide +kernel
theorem dX10_read_238 : decode cX10_read 238 = .ok (.iload_n 2, 1) := by decide +kernel
theorem dX10_read_239 : decode cX10_read 239 = .ok (.iaload, 1) := by decide +kernel
theorem dX10_read_240 : decode cX10_read 240 = .ok (.istore_n 2, 1) := by decide +kernel
theorem dX10_read_241 : decode cX10_read 241 = .ok (.goto (-89), 3) := by decide +kernel
theorem dX10_read_244 : decode cX10_read 244 = .ok (.return_, 1) := by decide +kernel
theorem dX10_rise_0 : decode cX10_rise 0 = .ok (.aload_n 0, 1) := by decide +kernel
theorem dX10_rise_1 : decode cX10_rise 1 = .ok (.getfield 90, 3) := by decide +kernel
theorem dX10_rise_4 : decode cX10_rise 4 = .ok (.ifCond .ne 6, 3) := by decide +kernel
theorem dX10_rise_7 : decode cX10_rise 7 = .ok (.bipush (-2), 2) := by decide +kernel
theorem dX10_rise_9 : decode cX10_rise 9 = .ok (.ireturn, 1) := by decide +kernel
theorem dX10_rise_10 : decode cX10_rise 10 = .ok (.aload_n 0, 1) := by decide +kernel
theorem dX10_rise_11 : decode cX10_rise 11 = .ok (.iconst 0, 1) := by decide +kernel
theorem dX10_rise_12 : decode cX10_rise 12 = .ok (.putfield 90, 3) := by decide +kernel
theorem dX10_rise_15 : decode cX10_rise 15 = .ok (.aload_n 0, 1) := by decide +kernel
theorem dX10_rise_16 : decode cX10_rise 16 = .ok (.invokevirtual 270, 3) := by decide +kernel
theorem dX10_rise_19 : decode cX10_rise 19 = .ok (.aload_n 0, 1) := by decide +kernel
theorem dX10_rise_20 : decode cX10_rise 20 = .ok (.iconst 0, 1) := by decide +kernel
theorem dX10_rise_21 : decode cX10_rise 21 = .ok (.putfield 16, 3) := by decide +kernel
theorem dX10_rise_24 : decode cX10_rise 24 = .ok (.aload_n 0, 1) := by decide +kernel
theorem dX10_rise_25 : decode cX10_rise 25 = .ok (.iconst 0, 1) := by decide +kernel
theorem dX10_rise_26 : decode cX10_rise 26 = .ok (.putfield 363, 3) := by decide +kernel
theorem dX10_rise_29 : decode cX10_rise 29 = .ok (.aload_n 0, 1) := by decide +kernel
theorem dX10_rise_30 : decode cX10_rise 30 = .ok (.getfield 231, 3) := by decide +kernel
theorem dX10_rise_33 : decode cX10_rise 33 = .ok (.iconst 1, 1) := by decide +kernel
theorem dX10_rise_34 : decode cX10_rise 34 = .ok (.iaload, 1) := by decide +kernel
theorem dX10_rise_35 : decode cX10_rise 35 = .ok (.aload_n 0, 1) := by decide +kernel
theorem dX10_rise_36 : decode cX10_rise 36 = .ok (.getfield 231, 3) := by decide +kernel
theorem dX10_rise_39 : decode cX10_rise 39 = .ok (.iconst 0, 1) := by decide +kernel
theorem dX10_rise_40 : decode cX10_rise 40 = .ok (.iaload, 1) := by decide +kernel
theorem dX10_rise_41 : decode cX10_rise 41 = .ok (.if_icmp .le 7, 3) := by decide +kernel
theorem dX10_rise_44 : decode cX10_rise 44 = .ok (.iconst 1, 1) := by decide +kernel
theorem dX10_rise_45 : decode cX10_rise 45 = .ok (.goto 4, 3) := by decide +kernel
theorem dX10_rise_48 : decode cX10_rise 48 = .ok (.iconst 0, 1) := by decide +kernel
theorem dX10_rise_49 : decode cX10_rise 49 = .ok (.istore_n 1, 1) := by decide +kernel
theorem dX10_rise_50 : decode cX10_rise 50 = .ok (.aload_n 0, 1) := by decide +kernel
theorem dX10_rise_51 : decode cX10_rise 51 = .ok (.aload_n 0, 1) := by decide +kernel
theorem dX10_rise_52 : decode cX10_rise 52 = .ok (.getfield 231, 3) := by decide +kernel
theorem dX10_rise_55 : decode cX10_rise 55 = .ok (.iload_n 1, 1) := by decide +kernel
theorem dX10_rise_56 : decode cX10_rise 56 = .ok (.iaload, 1) := by decide +kernel
theorem dX10_rise_57 : decode cX10_rise 57 = .ok (.putfield 388, 3) := by decide +kernel
theorem dX10_rise_60 : decode cX10_rise 60 = .ok (.aload_n 0, 1) := by decide +kernel
theorem dX10_rise_61 : decode cX10_rise 61 = .ok (.iconst 1, 1) := by decide +kernel
theorem dX10_rise_62 : decode cX10_rise 62 = .ok (.putfield 258, 3) := by decide +kernel
theorem dX10_rise_65 : decode cX10_rise 65 = .ok (.iconst 0, 1) := by decide +kernel
theorem dX10_rise_66 : decode cX10_rise 66 = .ok (.istore_n 2, 1) := by decide +kernel
theorem dX10_rise_67 : decode cX10_rise 67 = .ok (.iload_n 2, 1) := by decide +kernel
theorem dX10_rise_68 : decode cX10_rise 68 = .ok (.iconst 2, 1) := by decide +kernel
theorem dX10_rise_69 : decode cX10_rise 69 = .ok (.if_icmp .ge 43, 3) := by decide +kernel
theorem dX10_rise_72 : decode cX10_rise 72 = .ok (.aload_n 0, 1) := by decide +kernel
theorem dX10_rise_73 : decode cX10_rise 73 = .ok (.getfield 231, 3) := by decide +kernel
theorem dX10_rise_76 : decode cX10_rise 76 = .ok (.iload_n 2, 1) := by decide +kernel
theorem dX10_rise_77 : decode cX10_rise 77 = .ok (.iaload, 1) := by decide +kernel
theorem dX10_rise_78 : decode cX10_rise 78 = .ok (.ifCond .le 28, 3) := by decide +kernel
theorem dX10_rise_81 : decode cX10_rise 81 = .ok (.aload_n 0, 1) := by decide +kernel
theorem dX10_rise_82 : decode cX10_rise 82 = .ok (.getfield 243, 3) := by decide +kernel
theorem dX10_rise_85 : decode cX10_rise 85 = .ok (.iload_n 2, 1) := by decide +kernel
theorem dX10_rise_86 : decode cX10_rise 86 = .ok (.iaload, 1) := by decide +kernel
theorem dX10_rise_87 : decode cX10_rise 87 = .ok (.aload_n 0, 1) := by decide +kernel
theorem dX10_rise_88 : decode cX10_rise 88 = .ok (.getfield 258, 3) := by decide +kernel
theorem dX10_rise_91 : decode cX10_rise 91 = .ok (.if_icmp .lt 15, 3) := by decide +kernel
theorem dX10_rise_94 : decode cX10_rise 94 = .ok (.aload_n 0, 1) := by decide +kernel
theorem dX10_rise_95 : decode cX10_rise 95 = .ok (.aload_n 0, 1) := by decide +kernel
theorem dX10_rise_96 : decode cX10_rise 96 = .ok (.getfield 243, 3) := by decide +kernel
theorem dX10_rise_99 : decode cX10_rise 99 = .ok (.iload_n 2, 1) := by decide +kernel
theorem dX10_rise_100 : decode cX10_rise 100 = .ok (.iaload, 1) := by decide +kernel
theorem dX10_rise_101 : decode cX10_rise 101 = .ok (.iconst 1, 1) := by decide +kernel
theorem dX10_rise_102 : decode cX10_rise 102 = .ok (.iadd, 1) := by decide +kernel
theorem dX10_rise_103 : decode cX10_rise 103 = .ok (.putfield 258, 3) := by decide +kernel
theorem dX10_rise_106 : decode cX10_rise 106 = .ok (.iinc 2 1, 3) := by decide +kernel
theorem dX10_rise_109 : decode cX10_rise 109 = .ok (.goto (-42), 3) := by decide +kernel
theorem dX10_rise_112 : decode cX10_rise 112 = .ok (.aload_n 0, 1) := by decide +kernel
theorem dX10_rise_113 : decode cX10_rise 113 = .ok (.getfield 388, 3) := by decide +kernel
theorem dX10_rise_116 : decode cX10_rise 116 = .ok (.ifCond .ne 19, 3) := by decide +kernel
theorem dX10_rise_119 : decode cX10_rise 119 = .ok (.aload_n 0, 1) := by decide +kernel
theorem dX10_rise_120 : decode cX10_rise 120 = .ok (.iconst 0, 1) := by decide +kernel
theorem dX10_rise_121 : decode cX10_rise 121 = .ok (.putfield 63, 3) := by decide +kernel
theorem dX10_rise_124 : decode cX10_rise 124 = .ok (.aload_n 0, 1) := by decide +kernel
theorem dX10_rise_125 : decode cX10_rise 125 = .ok (.aload_n 0, 1) := by decide +kernel
theorem dX10_rise_126 : decode cX10_rise 126 = .ok (.iconst 1, 1) := by decide +kernel
theorem dX10_rise_127 : decode cX10_rise 127 = .ok (.invokevirtual 273, 3) := by decide +kernel
theorem dX10_rise_130 : decode cX10_rise 130 = .ok (.putfield 277, 3) := by decide +kernel
theorem dX10_rise_133 : decode cX10_rise 133 = .ok (.iconst 0, 1) := by decide +kernel
theorem dX10_rise_134 : decode cX10_rise 134 = .ok (.ireturn, 1) := by decide +kernel
theorem dX10_rise_135 : decode cX10_rise 135 = .ok (.aload_n 0, 1) := by decide +kernel
theorem dX10_rise_136 : decode cX10_rise 136 = .ok (.aload_n 0, 1) := by decide +kernel
theorem dX10_rise_137 : decode cX10_rise 137 = .ok (.getfield 237, 3) := by decide +kernel
theorem dX10_rise_140 : decode cX10_rise 140 = .ok (.iload_n 1, 1) := by decide +kernel
theorem dX10_rise_141 : decode cX10_rise 141 = .ok (.iaload, 1) := by decide +kernel
theorem dX10_rise_142 : decode cX10_rise 142 = .ok (.putfield 63, 3) := by decide +kernel
theorem dX10_rise_145 : decode cX10_rise 145 = .ok (.aload_n 0, 1) := by decide +kernel
theorem dX10_rise_146 : decode cX10_rise 146 = .ok (.aload_n 0, 1) := by decide +kernel
theorem dX10_rise_147 : decode cX10_rise 147 = .ok (.getfield 240, 3) := by decide +kernel
theorem dX10_rise_150 : decode cX10_rise 150 = .ok (.iload_n 1, 1) := by decide +kernel
theorem dX10_rise_151 : decode cX10_rise 151 = .ok (.iaload, 1) := by decide +kernel
theorem dX10_rise_152 : decode cX10_rise 152 = .ok (.putfield 363, 3) := by decide +kernel
theorem dX10_rise_155 : decode cX10_rise 155 = .ok (.iconst 0, 1) := by decide +kernel
theorem dX10_rise_156 : decode cX10_rise 156 = .ok (.istore_n 2, 1) := by decide +kernel
theorem dX10_rise_157 : decode cX10_rise 157 = .ok (.iload_n 2, 1) := by decide +kernel
theorem dX10_rise_158 : decode cX10_rise 158 = .ok (.aload_n 0, 1) := by decide +kernel
theorem dX10_rise_159 : decode cX10_rise 159 = .ok (.getfield 363, 3) := by decide +kernel
theorem dX10_rise_162 : decode cX10_rise 162 = .ok (.if_icmp .ge 43, 3) := by decide +kernel
theorem dX10_rise_165 : decode cX10_rise 165 = .ok (.aload_n 0, 1) := by decide +kernel
theorem dX10_rise_166 : decode cX10_rise 166 = .ok (.getfield 252, 3) := by decide +kernel
theorem dX10_rise_169 : decode cX10_rise 169 = .ok (.iload_n 2, 1) := by decide +kernel
theorem dX10_rise_170 : decode cX10_rise 170 = .ok (.aload_n 0, 1) := by decide +kernel
theorem dX10_rise_171 : decode cX10_rise 171 = .ok (.getfield 246, 3) := by decide +kernel
theorem dX10_rise_174 : decode cX10_rise 174 = .ok (.bipush 12, 2) := by decide +kernel
theorem dX10_rise_176 : decode cX10_rise 176 = .ok (.iload_n 1, 1) := by decide +kernel
theorem dX10_rise_177 : decode cX10_rise 177 = .ok (.imul, 1) := by decide +kernel
theorem dX10_rise_178 : decode cX10_rise 178 = .ok (.iload_n 2, 1) := by decide +kernel
theorem dX10_rise_179 : decode cX10_rise 179 = .ok (.iadd, 1) := by decide +kernel
theorem dX10_rise_180 : decode cX10_rise 180 = .ok (.iaload, 1) := by decide +kernel
theorem dX10_rise_181 : decode cX10_rise 181 = .ok (.iastore, 1) := by decide +kernel
theorem dX10_rise_182 : decode cX10_rise 182 = .ok (.aload_n 0, 1) := by decide +kernel
theorem dX10_rise_183 : decode cX10_rise 183 = .ok (.getfield 255, 3) := by decide +kernel
theorem dX10_rise_186 : decode cX10_rise 186 = .ok (.iload_n 2, 1) := by decide +kernel
theorem dX10_rise_187 : decode cX10_rise 187 = .ok (.aload_n 0, 1) := by decide +kernel
theorem dX10_rise_188 : decode cX10_rise 188 = .ok (.getfield 249, 3) := by decide +kernel
theorem dX10_rise_191 : decode cX10_rise 191 = .ok (.bipush 12, 2) := by decide +kernel
theorem dX10_rise_193 : decode cX10_rise 193 = .ok (.iload_n 1, 1) := by decide +kernel
theorem dX10_rise_194 : decode cX10_rise 194 = .ok (.imul, 1) := by decide +kernel
theorem dX10_rise_195 : decode cX10_rise 195 = .ok (.iload_n 2, 1) := by decide +kernel
theorem dX10_rise_196 : decode cX10_rise 196 = .ok (.iadd, 1) := by decide +kernel
theorem dX10_rise_197 : decode cX10_rise 197 = .ok (.iaload, 1) := by decide +kernel
theorem dX10_rise_198 : decode cX10_rise 198 = .ok (.iastore, 1) := by decide +kernel
theorem dX10_rise_199 : decode cX10_rise 199 = .ok (.iinc 2 1, 3) := by decide +kernel
theorem dX10_rise_202 : decode cX10_rise 202 = .ok (.goto (-45), 3) := by decide +kernel
theorem dX10_rise_205 : decode cX10_rise 205 = .ok (.aload_n 0, 1) := by decide +kernel
theorem dX10_rise_206 : decode cX10_rise 206 = .ok (.aload_n 0, 1) := by decide +kernel
theorem dX10_rise_207 : decode cX10_rise 207 = .ok (.aload_n 0, 1) := by decide +kernel
theorem dX10_rise_208 : decode cX10_rise 208 = .ok (.getfield 234, 3) := by decide +kernel
theorem dX10_rise_211 : decode cX10_rise 211 = .ok (.iload_n 1, 1) := by decide +kernel
theorem dX10_rise_212 : decode cX10_rise 212 = .ok (.iaload, 1) := by decide +kernel
theorem dX10_rise_213 : decode cX10_rise 213 = .ok (.invokevirtual 400, 3) := by decide +kernel
theorem dX10_rise_216 : decode cX10_rise 216 = .ok (.putfield 277, 3) := by decide +kernel
theorem dX10_rise_219 : decode cX10_rise 219 = .ok (.aload_n 0, 1) := by decide +kernel
theorem dX10_rise_220 : decode cX10_rise 220 = .ok (.aload_n 0, 1) := by decide +kernel
theorem dX10_rise_221 : decode cX10_rise 221 = .ok (.getfield 277, 3) := by decide +kernel
theorem dX10_rise_224 : decode cX10_rise 224 = .ok (.invokevirtual 403, 3) := by decide +kernel
theorem dX10_rise_227 : decode cX10_rise 227 = .ok (.aload_n 0, 1) := by decide +kernel
theorem dX10_rise_228 : decode cX10_rise 228 = .ok (.getfield 388, 3) := by decide +kernel
theorem dX10_rise_231 : decode cX10_rise 231 = .ok (.ireturn, 1) := by decide +kernel
theorem dX10_pagesOf_0 : decode cX10_pagesOf 0 = .ok (.iconst 1, 1) := by decide +kernel
theorem dX10_pagesOf_1 : decode cX10_pagesOf 1 = .ok (.istore_n 2, 1) := by decide +kernel
theorem dX10_pagesOf_2 : decode cX10_pagesOf 2 = .ok (.iconst 0, 1) := by decide +kernel
theorem dX10_pagesOf_3 : decode cX10_pagesOf 3 = .ok (.istore_n 3, 1) := by decide +kernel
theorem dX10_pagesOf_4 : decode cX10_pagesOf 4 = .ok (.iload_n 3, 1) := by decide +kernel
theorem dX10_pagesOf_5 : decode cX10_pagesOf 5 = .ok (.aload_n 0, 1) := by decide +kernel
theorem dX10_pagesOf_6 : decode cX10_pagesOf 6 = .ok (.getfield 203, 3) := by decide +kernel
theorem dX10_pagesOf_9 : decode cX10_pagesOf 9 = .ok (.iload_n 1, 1) := by decide +kernel
theorem dX10_pagesOf_10 : decode cX10_pagesOf 10 = .ok (.iaload, 1) := by decide +kernel
theorem dX10_pagesOf_11 : decode cX10_pagesOf 11 = .ok (.if_icmp .ge 36, 3) := by decide +kernel
theorem dX10_pagesOf_14 : decode cX10_pagesOf 14 = .ok (.aload_n 0, 1) := by decide +kernel
theorem dX10_pagesOf_15 : decode cX10_pagesOf 15 = .ok (.getfield 200, 3) := by decide +kernel
theorem dX10_pagesOf_18 : decode cX10_pagesOf 18 = .ok (.iload_n 1, 1) := by decide +kernel
theorem dX10_pagesOf_19 : decode cX10_pagesOf 19 = .ok (.baload, 1) := by decide +kernel
theorem dX10_pagesOf_20 : decode cX10_pagesOf 20 = .ok (.ifCond .ne 27, 3) := by decide +kernel
theorem dX10_pagesOf_23 : decode cX10_pagesOf 23 = .ok (.iload_n 2, 1) := by decide +kernel
theorem dX10_pagesOf_24 : decode cX10_pagesOf 24 = .ok (.aload_n 0, 1) := by decide +kernel
theorem dX10_pagesOf_25 : decode cX10_pagesOf 25 = .ok (.aload_n 0, 1) := by decide +kernel
theorem dX10_pagesOf_26 : decode cX10_pagesOf 26 = .ok (.getfield 216, 3) := by decide +kernel
theorem dX10_pagesOf_29 : decode cX10_pagesOf 29 = .ok (.bipush 6, 2) := by decide +kernel
theorem dX10_pagesOf_31 : decode cX10_pagesOf 31 = .ok (.iload_n 1, 1) := by decide +kernel
theorem dX10_pagesOf_32 : decode cX10_pagesOf 32 = .ok (.imul, 1) := by decide +kernel
theorem dX10_pagesOf_33 : decode cX10_pagesOf 33 = .ok (.iload_n 3, 1) := by decide +kernel
theorem dX10_pagesOf_34 : decode cX10_pagesOf 34 = .ok (.iadd, 1) := by decide +kernel
theorem dX10_pagesOf_35 : decode cX10_pagesOf 35 = .ok (.iaload, 1) := by decide +kernel
theorem dX10_pagesOf_36 : decode cX10_pagesOf 36 = .ok (.invokevirtual 406, 3) := by decide +kernel
theorem dX10_pagesOf_39 : decode cX10_pagesOf 39 = .ok (.iadd, 1) := by decide +kernel
theorem dX10_pagesOf_40 : decode cX10_pagesOf 40 = .ok (.istore_n 2, 1) := by decide +kernel
theorem dX10_pagesOf_41 : decode cX10_pagesOf 41 = .ok (.iinc 3 1, 3) := by decide +kernel
theorem dX10_pagesOf_44 : decode cX10_pagesOf 44 = .ok (.goto (-40), 3) := by decide +kernel
theorem dX10_pagesOf_47 : decode cX10_pagesOf 47 = .ok (.iload_n 2, 1) := by decide +kernel
theorem dX10_pagesOf_48 : decode cX10_pagesOf 48 = .ok (.ireturn, 1) := by decide +kernel
theorem dX10_disk_0 : decode cX10_disk 0 = .ok (.iload_n 1, 1) := by decide +kernel
theorem dX10_disk_1 : decode cX10_disk 1 = .ok (.ifCond .lt 17, 3) := by decide +kernel
theorem dX10_disk_4 : decode cX10_disk 4 = .ok (.iload_n 1, 1) := by decide +kernel
theorem dX10_disk_5 : decode cX10_disk 5 = .ok (.iconst 1, 1) := by decide +kernel
theorem dX10_disk_6 : decode cX10_disk 6 = .ok (.if_icmp .gt 12, 3) := by decide +kernel
theorem dX10_disk_9 : decode cX10_disk 9 = .ok (.iload_n 2, 1) := by decide +kernel
theorem dX10_disk_10 : decode cX10_disk 10 = .ok (.ifCond .lt 8, 3) := by decide +kernel
theorem dX10_disk_13 : decode cX10_disk 13 = .ok (.iload_n 2, 1) := by decide +kernel
theorem dX10_disk_14 : decode cX10_disk 14 = .ok (.iconst 3, 1) := by decide +kernel
theorem dX10_disk_15 : decode cX10_disk 15 = .ok (.if_icmp .le 5, 3) := by decide +kernel
theorem dX10_disk_18 : decode cX10_disk 18 = .ok (.iconst (-1), 1) := by decide +kernel
theorem dX10_disk_19 : decode cX10_disk 19 = .ok (.ireturn, 1) := by decide +kernel
theorem dX10_disk_20 : decode cX10_disk 20 = .ok (.aload_n 0, 1) := by decide +kernel
theorem dX10_disk_21 : decode cX10_disk 21 = .ok (.getfield 231, 3) := by decide +kernel
theorem dX10_disk_24 : decode cX10_disk 24 = .ok (.iload_n 1, 1) := by decide +kernel
theorem dX10_disk_25 : decode cX10_disk 25 = .ok (.iaload, 1) := by decide +kernel
theorem dX10_disk_26 : decode cX10_disk 26 = .ok (.ifCond .ne 5, 3) := by decide +kernel
theorem dX10_disk_29 : decode cX10_disk 29 = .ok (.iconst 0, 1) := by decide +kernel
theorem dX10_disk_30 : decode cX10_disk 30 = .ok (.ireturn, 1) := by decide +kernel
theorem dX10_disk_31 : decode cX10_disk 31 = .ok (.iload_n 2, 1) := by decide +kernel
theorem dX10_disk_32 : decode cX10_disk 32 = .ok (.tableswitch 49 0 2 #[28, 35, 42], 28) := by decide +kernel
theorem dX10_disk_60 : decode cX10_disk 60 = .ok (.aload_n 0, 1) := by decide +kernel
theorem dX10_disk_61 : decode cX10_disk 61 = .ok (.getfield 231, 3) := by decide +kernel
theorem dX10_disk_64 : decode cX10_disk 64 = .ok (.iload_n 1, 1) := by decide +kernel
theorem dX10_disk_65 : decode cX10_disk 65 = .ok (.iaload, 1) := by decide +kernel
theorem dX10_disk_66 : decode cX10_disk 66 = .ok (.ireturn, 1) := by decide +kernel
theorem dX10_disk_67 : decode cX10_disk 67 = .ok (.aload_n 0, 1) := by decide +kernel
theorem dX10_disk_68 : decode cX10_disk 68 = .ok (.getfield 237, 3) := by decide +kernel
theorem dX10_disk_71 : decode cX10_disk 71 = .ok (.iload_n 1, 1) := by decide +kernel
theorem dX10_disk_72 : decode cX10_disk 72 = .ok (.iaload, 1) := by decide +kernel
theorem dX10_disk_73 : decode cX10_disk 73 = .ok (.ireturn, 1) := by decide +kernel
theorem dX10_disk_74 : decode cX10_disk 74 = .ok (.aload_n 0, 1) := by decide +kernel
theorem dX10_disk_75 : decode cX10_disk 75 = .ok (.getfield 240, 3) := by decide +kernel
theorem dX10_disk_78 : decode cX10_disk 78 = .ok (.iload_n 1, 1) := by decide +kernel
theorem dX10_disk_79 : decode cX10_disk 79 = .ok (.iaload, 1) := by decide +kernel
theorem dX10_disk_80 : decode cX10_disk 80 = .ok (.ireturn, 1) := by decide +kernel
theorem dX10_disk_81 : decode cX10_disk 81 = .ok (.aload_n 0, 1) := by decide +kernel
theorem dX10_disk_82 : decode cX10_disk 82 = .ok (.aload_n 0, 1) := by decide +kernel
theorem dX10_disk_83 : decode cX10_disk 83 = .ok (.getfield 234, 3) := by decide +kernel
theorem dX10_disk_86 : decode cX10_disk 86 = .ok (.iload_n 1, 1) := by decide +kernel
theorem dX10_disk_87 : decode cX10_disk 87 = .ok (.iaload, 1) := by decide +kernel
theorem dX10_disk_88 : decode cX10_disk 88 = .ok (.invokevirtual 406, 3) := by decide +kernel
theorem dX10_disk_91 : decode cX10_disk 91 = .ok (.ireturn, 1) := by decide +kernel
theorem dX10_bend_0 : decode cX10_bend 0 = .ok (.iload_n 1, 1) := by decide +kernel
theorem dX10_bend_1 : decode cX10_bend 1 = .ok (.ifCond .lt 8, 3) := by decide +kernel
theorem dX10_bend_4 : decode cX10_bend 4 = .ok (.iload_n 1, 1) := by decide +kernel
theorem dX10_bend_5 : decode cX10_bend 5 = .ok (.iconst 1, 1) := by decide +kernel
theorem dX10_bend_6 : decode cX10_bend 6 = .ok (.if_icmp .le 5, 3) := by decide +kernel
theorem dX10_bend_9 : decode cX10_bend 9 = .ok (.iconst (-1), 1) := by decide +kernel
theorem dX10_bend_10 : decode cX10_bend 10 = .ok (.ireturn, 1) := by decide +kernel
theorem dX10_bend_11 : decode cX10_bend 11 = .ok (.aload_n 0, 1) := by decide +kernel
theorem dX10_bend_12 : decode cX10_bend 12 = .ok (.getfield 231, 3) := by decide +kernel
theorem dX10_bend_15 : decode cX10_bend 15 = .ok (.iload_n 1, 1) := by decide +kernel
theorem dX10_bend_16 : decode cX10_bend 16 = .ok (.iaload, 1) := by decide +kernel
theorem dX10_bend_17 : decode cX10_bend 17 = .ok (.ifCond .le 7, 3) := by decide +kernel
theorem dX10_bend_20 : decode cX10_bend 20 = .ok (.iconst 1, 1) := by decide +kernel
theorem dX10_bend_21 : decode cX10_bend 21 = .ok (.goto 4, 3) := by decide +kernel
theorem dX10_bend_24 : decode cX10_bend 24 = .ok (.iconst 0, 1) := by decide +kernel
theorem dX10_bend_25 : decode cX10_bend 25 = .ok (.istore_n 2, 1) := by decide +kernel
theorem dX10_bend_26 : decode cX10_bend 26 = .ok (.aload_n 0, 1) := by decide +kernel
theorem dX10_bend_27 : decode cX10_bend 27 = .ok (.getfield 231, 3) := by decide +kernel
theorem dX10_bend_30 : decode cX10_bend 30 = .ok (.iload_n 1, 1) := by decide +kernel
theorem dX10_bend_31 : decode cX10_bend 31 = .ok (.iconst 0, 1) := by decide +kernel
theorem dX10_bend_32 : decode cX10_bend 32 = .ok (.iastore, 1) := by decide +kernel
theorem dX10_bend_33 : decode cX10_bend 33 = .ok (.iload_n 2, 1) := by decide +kernel
theorem dX10_bend_34 : decode cX10_bend 34 = .ok (.ireturn, 1) := by decide +kernel
theorem dX10_writes_0 : decode cX10_writes 0 = .ok (.iload_n 1, 1) := by decide +kernel
theorem dX10_writes_1 : decode cX10_writes 1 = .ok (.ifCond .lt 17, 3) := by decide +kernel
theorem dX10_writes_4 : decode cX10_writes 4 = .ok (.iload_n 1, 1) := by decide +kernel
theorem dX10_writes_5 : decode cX10_writes 5 = .ok (.iconst 3, 1) := by decide +kernel
theorem dX10_writes_6 : decode cX10_writes 6 = .ok (.if_icmp .gt 12, 3) := by decide +kernel
theorem dX10_writes_9 : decode cX10_writes 9 = .ok (.aload_n 0, 1) := by decide +kernel
theorem dX10_writes_10 : decode cX10_writes 10 = .ok (.getfield 261, 3) := by decide +kernel
theorem dX10_writes_13 : decode cX10_writes 13 = .ok (.iload_n 1, 1) := by decide +kernel
theorem dX10_writes_14 : decode cX10_writes 14 = .ok (.iaload, 1) := by decide +kernel
theorem dX10_writes_15 : decode cX10_writes 15 = .ok (.goto 4, 3) := by decide +kernel
theorem dX10_writes_18 : decode cX10_writes 18 = .ok (.iconst (-1), 1) := by decide +kernel
theorem dX10_writes_19 : decode cX10_writes 19 = .ok (.ireturn, 1) := by decide +kernel
theorem dX10_number__0 : decode cX10_number_ 0 = .ok (.aload_n 0, 1) := by decide +kernel
theorem dX10_number__1 : decode cX10_number_ 1 = .ok (.getfield 90, 3) := by decide +kernel
theorem dX10_number__4 : decode cX10_number_ 4 = .ok (.ifCond .eq 6, 3) := by decide +kernel
theorem dX10_number__7 : decode cX10_number_ 7 = .ok (.bipush (-4), 2) := by decide +kernel
theorem dX10_number__9 : decode cX10_number_ 9 = .ok (.ireturn, 1) := by decide +kernel
theorem dX10_number__10 : decode cX10_number_ 10 = .ok (.iload_n 1, 1) := by decide +kernel
theorem dX10_number__11 : decode cX10_number_ 11 = .ok (.ifCond .ne 10, 3) := by decide +kernel
theorem dX10_number__14 : decode cX10_number_ 14 = .ok (.aload_n 0, 1) := by decide +kernel
theorem dX10_number__15 : decode cX10_number_ 15 = .ok (.getfield 63, 3) := by decide +kernel
theorem dX10_number__18 : decode cX10_number_ 18 = .ok (.goto 16, 3) := by decide +kernel
theorem dX10_number__21 : decode cX10_number_ 21 = .ok (.iload_n 1, 1) := by decide +kernel
theorem dX10_number__22 : decode cX10_number_ 22 = .ok (.iconst 1, 1) := by decide +kernel
theorem dX10_number__23 : decode cX10_number_ 23 = .ok (.if_icmp .ne 10, 3) := by decide +kernel
theorem dX10_number__26 : decode cX10_number_ 26 = .ok (.aload_n 0, 1) := by decide +kernel
theorem dX10_number__27 : decode cX10_number_ 27 = .ok (.getfield 388, 3) := by decide +kernel
theorem dX10_number__30 : decode cX10_number_ 30 = .ok (.goto 4, 3) := by decide +kernel
theorem dX10_number__33 : decode cX10_number_ 33 = .ok (.iconst (-1), 1) := by decide +kernel
theorem dX10_number__34 : decode cX10_number_ 34 = .ok (.ireturn, 1) := by decide +kernel
theorem dJ9_max_7cf53_0 : decode cJ9_max_7cf53 0 = .ok (.iload_n 0, 1) := by decide +kernel
theorem dJ9_max_7cf53_1 : decode cJ9_max_7cf53 1 = .ok (.iload_n 1, 1) := by decide +kernel
theorem dJ9_max_7cf53_2 : decode cJ9_max_7cf53 2 = .ok (.if_icmp .lt 7, 3) := by decide +kernel
theorem dJ9_max_7cf53_5 : decode cJ9_max_7cf53 5 = .ok (.iload_n 0, 1) := by decide +kernel
theorem dJ9_max_7cf53_6 : decode cJ9_max_7cf53 6 = .ok (.goto 4, 3) := by decide +kernel
theorem dJ9_max_7cf53_9 : decode cJ9_max_7cf53 9 = .ok (.iload_n 1, 1) := by decide +kernel
theorem dJ9_max_7cf53_10 : decode cJ9_max_7cf53 10 = .ok (.ireturn, 1) := by decide +kernel
theorem dJ9_max_f86c9_0 : decode cJ9_max_f86c9 0 = .ok (.lload_n 0, 1) := by decide +kernel
theorem dJ9_max_f86c9_1 : decode cJ9_max_f86c9 1 = .ok (.lload_n 2, 1) := by decide +kernel
theorem dJ9_max_f86c9_2 : decode cJ9_max_f86c9 2 = .ok (.lcmp, 1) := by decide +kernel
theorem dJ9_max_f86c9_3 : decode cJ9_max_f86c9 3 = .ok (.ifCond .lt 7, 3) := by decide +kernel
theorem dJ9_max_f86c9_6 : decode cJ9_max_f86c9 6 = .ok (.lload_n 0, 1) := by decide +kernel
theorem dJ9_max_f86c9_7 : decode cJ9_max_f86c9 7 = .ok (.goto 4, 3) := by decide +kernel
theorem dJ9_max_f86c9_10 : decode cJ9_max_f86c9 10 = .ok (.lload_n 2, 1) := by decide +kernel
theorem dJ9_max_f86c9_11 : decode cJ9_max_f86c9 11 = .ok (.lreturn, 1) := by decide +kernel
theorem dJ9_min_7cf53_0 : decode cJ9_min_7cf53 0 = .ok (.iload_n 0, 1) := by decide +kernel
theorem dJ9_min_7cf53_1 : decode cJ9_min_7cf53 1 = .ok (.iload_n 1, 1) := by decide +kernel
theorem dJ9_min_7cf53_2 : decode cJ9_min_7cf53 2 = .ok (.if_icmp .gt 7, 3) := by decide +kernel
theorem dJ9_min_7cf53_5 : decode cJ9_min_7cf53 5 = .ok (.iload_n 0, 1) := by decide +kernel
theorem dJ9_min_7cf53_6 : decode cJ9_min_7cf53 6 = .ok (.goto 4, 3) := by decide +kernel
theorem dJ9_min_7cf53_9 : decode cJ9_min_7cf53 9 = .ok (.iload_n 1, 1) := by decide +kernel
theorem dJ9_min_7cf53_10 : decode cJ9_min_7cf53 10 = .ok (.ireturn, 1) := by decide +kernel
theorem dJ9_min_f86c9_0 : decode cJ9_min_f86c9 0 = .ok (.lload_n 0, 1) := by decide +kernel
theorem dJ9_min_f86c9_1 : decode cJ9_min_f86c9 1 = .ok (.lload_n 2, 1) := by decide +kernel
theorem dJ9_min_f86c9_2 : decode cJ9_min_f86c9 2 = .ok (.lcmp, 1) := by decide +kernel
theorem dJ9_min_f86c9_3 : decode cJ9_min_f86c9 3 = .ok (.ifCond .gt 7, 3) := by decide +kernel
theorem dJ9_min_f86c9_6 : decode cJ9_min_f86c9 6 = .ok (.lload_n 0, 1) := by decide +kernel
theorem dJ9_min_f86c9_7 : decode cJ9_min_f86c9 7 = .ok (.goto 4, 3) := by decide +kernel
theorem dJ9_min_f86c9_10 : decode cJ9_min_f86c9 10 = .ok (.lload_n 2, 1) := by decide +kernel
theorem dJ9_min_f86c9_11 : decode cJ9_min_f86c9 11 = .ok (.lreturn, 1) := by decide +kernel
theorem dJxa1e45_init_da8c8_0 : decode cJxa1e45_init_da8c8 0 = .ok (.aload_n 0, 1) := by decide +kernel
theorem dJxa1e45_init_da8c8_1 : decode cJxa1e45_init_da8c8 1 = .ok (.invokespecial 1, 3) := by decide +kernel
theorem dJxa1e45_init_da8c8_4 : decode cJxa1e45_init_da8c8 4 = .ok (.return_, 1) := by decide +kernel
theorem dJxc12de_init_da8c8_0 : decode cJxc12de_init_da8c8 0 = .ok (.aload_n 0, 1) := by decide +kernel
theorem dJxc12de_init_da8c8_1 : decode cJxc12de_init_da8c8 1 = .ok (.invokespecial 1, 3) := by decide +kernel
theorem dJxc12de_init_da8c8_4 : decode cJxc12de_init_da8c8 4 = .ok (.aload_n 0, 1) := by decide +kernel
theorem dJxc12de_init_da8c8_5 : decode cJxc12de_init_da8c8 5 = .ok (.iconst 0, 1) := by decide +kernel
theorem dJxc12de_init_da8c8_6 : decode cJxc12de_init_da8c8 6 = .ok (.putfield 7, 3) := by decide +kernel
theorem dJxc12de_init_da8c8_9 : decode cJxc12de_init_da8c8 9 = .ok (.return_, 1) := by decide +kernel
theorem dJx4a65c_init_da8c8_0 : decode cJx4a65c_init_da8c8 0 = .ok (.aload_n 0, 1) := by decide +kernel
theorem dJx4a65c_init_da8c8_1 : decode cJx4a65c_init_da8c8 1 = .ok (.invokespecial 1, 3) := by decide +kernel
theorem dJx4a65c_init_da8c8_4 : decode cJx4a65c_init_da8c8 4 = .ok (.aload_n 0, 1) := by decide +kernel
theorem dJx4a65c_init_da8c8_5 : decode cJx4a65c_init_da8c8 5 = .ok (.getstatic 39, 3) := by decide +kernel
theorem dJx4a65c_init_da8c8_8 : decode cJx4a65c_init_da8c8 8 = .ok (.putfield 9, 3) := by decide +kernel
theorem dJx4a65c_init_da8c8_11 : decode cJx4a65c_init_da8c8 11 = .ok (.return_, 1) := by decide +kernel
theorem dJx4a65c_grow_92f84_0 : decode cJx4a65c_grow_92f84 0 = .ok (.aload_n 0, 1) := by decide +kernel
theorem dJx4a65c_grow_92f84_1 : decode cJx4a65c_grow_92f84 1 = .ok (.getfield 9, 3) := by decide +kernel
theorem dJx4a65c_grow_92f84_4 : decode cJx4a65c_grow_92f84 4 = .ok (.arraylength, 1) := by decide +kernel
theorem dJx4a65c_grow_92f84_5 : decode cJx4a65c_grow_92f84 5 = .ok (.istore_n 2, 1) := by decide +kernel
theorem dJx4a65c_grow_92f84_6 : decode cJx4a65c_grow_92f84 6 = .ok (.iload_n 2, 1) := by decide +kernel
theorem dJx4a65c_grow_92f84_7 : decode cJx4a65c_grow_92f84 7 = .ok (.ifCond .gt 13, 3) := by decide +kernel
theorem dJx4a65c_grow_92f84_10 : decode cJx4a65c_grow_92f84 10 = .ok (.aload_n 0, 1) := by decide +kernel
theorem dJx4a65c_grow_92f84_11 : decode cJx4a65c_grow_92f84 11 = .ok (.getfield 9, 3) := by decide +kernel
theorem dJx4a65c_grow_92f84_14 : decode cJx4a65c_grow_92f84 14 = .ok (.getstatic 39, 3) := by decide +kernel
theorem dJx4a65c_grow_92f84_17 : decode cJx4a65c_grow_92f84 17 = .ok (.if_acmp .eq 28, 3) := by decide +kernel
theorem dJx4a65c_grow_92f84_20 : decode cJx4a65c_grow_92f84 20 = .ok (.iload_n 2, 1) := by decide +kernel
theorem dJx4a65c_grow_92f84_21 : decode cJx4a65c_grow_92f84 21 = .ok (.iload_n 1, 1) := by decide +kernel
theorem dJx4a65c_grow_92f84_22 : decode cJx4a65c_grow_92f84 22 = .ok (.iload_n 2, 1) := by decide +kernel
theorem dJx4a65c_grow_92f84_23 : decode cJx4a65c_grow_92f84 23 = .ok (.isub, 1) := by decide +kernel
theorem dJx4a65c_grow_92f84_24 : decode cJx4a65c_grow_92f84 24 = .ok (.iload_n 2, 1) := by decide +kernel
theorem dJx4a65c_grow_92f84_25 : decode cJx4a65c_grow_92f84 25 = .ok (.iconst 1, 1) := by decide +kernel
theorem dJx4a65c_grow_92f84_26 : decode cJx4a65c_grow_92f84 26 = .ok (.ishr, 1) := by decide +kernel
theorem dJx4a65c_grow_92f84_27 : decode cJx4a65c_grow_92f84 27 = .ok (.invokestatic 73, 3) := by decide +kernel
theorem dJx4a65c_grow_92f84_30 : decode cJx4a65c_grow_92f84 30 = .ok (.istore_n 3, 1) := by decide +kernel
theorem dJx4a65c_grow_92f84_31 : decode cJx4a65c_grow_92f84 31 = .ok (.aload_n 0, 1) := by decide +kernel
theorem dJx4a65c_grow_92f84_32 : decode cJx4a65c_grow_92f84 32 = .ok (.aload_n 0, 1) := by decide +kernel
theorem dJx4a65c_grow_92f84_33 : decode cJx4a65c_grow_92f84 33 = .ok (.getfield 9, 3) := by decide +kernel
theorem dJx4a65c_grow_92f84_36 : decode cJx4a65c_grow_92f84 36 = .ok (.iload_n 3, 1) := by decide +kernel
theorem dJx4a65c_grow_92f84_37 : decode cJx4a65c_grow_92f84 37 = .ok (.invokestatic 66, 3) := by decide +kernel
theorem dJx4a65c_grow_92f84_40 : decode cJx4a65c_grow_92f84 40 = .ok (.dup_x1, 1) := by decide +kernel
theorem dJx4a65c_grow_92f84_41 : decode cJx4a65c_grow_92f84 41 = .ok (.putfield 9, 3) := by decide +kernel
theorem dJx4a65c_grow_92f84_44 : decode cJx4a65c_grow_92f84 44 = .ok (.areturn, 1) := by decide +kernel
theorem dJx4a65c_grow_92f84_45 : decode cJx4a65c_grow_92f84 45 = .ok (.aload_n 0, 1) := by decide +kernel
theorem dJx4a65c_grow_92f84_46 : decode cJx4a65c_grow_92f84 46 = .ok (.bipush 10, 2) := by decide +kernel
theorem dJx4a65c_grow_92f84_48 : decode cJx4a65c_grow_92f84 48 = .ok (.iload_n 1, 1) := by decide +kernel
theorem dJx4a65c_grow_92f84_49 : decode cJx4a65c_grow_92f84 49 = .ok (.invokestatic 79, 3) := by decide +kernel
theorem dJx4a65c_grow_92f84_52 : decode cJx4a65c_grow_92f84 52 = .ok (.anewarray 7, 3) := by decide +kernel
theorem dJx4a65c_grow_92f84_55 : decode cJx4a65c_grow_92f84 55 = .ok (.dup_x1, 1) := by decide +kernel
theorem dJx4a65c_grow_92f84_56 : decode cJx4a65c_grow_92f84 56 = .ok (.putfield 9, 3) := by decide +kernel
theorem dJx4a65c_grow_92f84_59 : decode cJx4a65c_grow_92f84 59 = .ok (.areturn, 1) := by decide +kernel
theorem dJx4a65c_grow_d5877_0 : decode cJx4a65c_grow_d5877 0 = .ok (.aload_n 0, 1) := by decide +kernel
theorem dJx4a65c_grow_d5877_1 : decode cJx4a65c_grow_d5877 1 = .ok (.aload_n 0, 1) := by decide +kernel
theorem dJx4a65c_grow_d5877_2 : decode cJx4a65c_grow_d5877 2 = .ok (.getfield 48, 3) := by decide +kernel
theorem dJx4a65c_grow_d5877_5 : decode cJx4a65c_grow_d5877 5 = .ok (.iconst 1, 1) := by decide +kernel
theorem dJx4a65c_grow_d5877_6 : decode cJx4a65c_grow_d5877 6 = .ok (.iadd, 1) := by decide +kernel
theorem dJx4a65c_grow_d5877_7 : decode cJx4a65c_grow_d5877 7 = .ok (.invokevirtual 69, 3) := by decide +kernel
theorem dJx4a65c_grow_d5877_10 : decode cJx4a65c_grow_d5877 10 = .ok (.areturn, 1) := by decide +kernel
theorem dJx4a65c_size_8abf5_0 : decode cJx4a65c_size_8abf5 0 = .ok (.aload_n 0, 1) := by decide +kernel
theorem dJx4a65c_size_8abf5_1 : decode cJx4a65c_size_8abf5 1 = .ok (.getfield 48, 3) := by decide +kernel
theorem dJx4a65c_size_8abf5_4 : decode cJx4a65c_size_8abf5 4 = .ok (.ireturn, 1) := by decide +kernel
theorem dJx4a65c_isEmpty_aae02_0 : decode cJx4a65c_isEmpty_aae02 0 = .ok (.aload_n 0, 1) := by decide +kernel
theorem dJx4a65c_isEmpty_aae02_1 : decode cJx4a65c_isEmpty_aae02 1 = .ok (.getfield 48, 3) := by decide +kernel
theorem dJx4a65c_isEmpty_aae02_4 : decode cJx4a65c_isEmpty_aae02 4 = .ok (.ifCond .ne 7, 3) := by decide +kernel
theorem dJx4a65c_isEmpty_aae02_7 : decode cJx4a65c_isEmpty_aae02 7 = .ok (.iconst 1, 1) := by decide +kernel
theorem dJx4a65c_isEmpty_aae02_8 : decode cJx4a65c_isEmpty_aae02 8 = .ok (.goto 4, 3) := by decide +kernel
theorem dJx4a65c_isEmpty_aae02_11 : decode cJx4a65c_isEmpty_aae02 11 = .ok (.iconst 0, 1) := by decide +kernel
theorem dJx4a65c_isEmpty_aae02_12 : decode cJx4a65c_isEmpty_aae02 12 = .ok (.ireturn, 1) := by decide +kernel
theorem dJx4a65c_elementData_915e3_0 : decode cJx4a65c_elementData_915e3 0 = .ok (.aload_n 0, 1) := by decide +kernel
theorem dJx4a65c_elementData_915e3_1 : decode cJx4a65c_elementData_915e3 1 = .ok (.getfield 9, 3) := by decide +kernel
theorem dJx4a65c_elementData_915e3_4 : decode cJx4a65c_elementData_915e3 4 = .ok (.iload_n 1, 1) := by decide +kernel
theorem dJx4a65c_elementData_915e3_5 : decode cJx4a65c_elementData_915e3 5 = .ok (.aaload, 1) := by decide +kernel
theorem dJx4a65c_elementData_915e3_6 : decode cJx4a65c_elementData_915e3 6 = .ok (.areturn, 1) := by decide +kernel
theorem dJx4a65c_get_915e3_0 : decode cJx4a65c_get_915e3 0 = .ok (.iload_n 1, 1) := by decide +kernel
theorem dJx4a65c_get_915e3_1 : decode cJx4a65c_get_915e3 1 = .ok (.aload_n 0, 1) := by decide +kernel
theorem dJx4a65c_get_915e3_2 : decode cJx4a65c_get_915e3 2 = .ok (.getfield 48, 3) := by decide +kernel
theorem dJx4a65c_get_915e3_5 : decode cJx4a65c_get_915e3 5 = .ok (.invokestatic 118, 3) := by decide +kernel
theorem dJx4a65c_get_915e3_8 : decode cJx4a65c_get_915e3 8 = .ok (.pop, 1) := by decide +kernel
theorem dJx4a65c_get_915e3_9 : decode cJx4a65c_get_915e3 9 = .ok (.aload_n 0, 1) := by decide +kernel
theorem dJx4a65c_get_915e3_10 : decode cJx4a65c_get_915e3 10 = .ok (.iload_n 1, 1) := by decide +kernel
theorem dJx4a65c_get_915e3_11 : decode cJx4a65c_get_915e3 11 = .ok (.invokevirtual 123, 3) := by decide +kernel
theorem dJx4a65c_get_915e3_14 : decode cJx4a65c_get_915e3 14 = .ok (.areturn, 1) := by decide +kernel
theorem dJx4a65c_set_bcc79_0 : decode cJx4a65c_set_bcc79 0 = .ok (.iload_n 1, 1) := by decide +kernel
theorem dJx4a65c_set_bcc79_1 : decode cJx4a65c_set_bcc79 1 = .ok (.aload_n 0, 1) := by decide +kernel
theorem dJx4a65c_set_bcc79_2 : decode cJx4a65c_set_bcc79 2 = .ok (.getfield 48, 3) := by decide +kernel
theorem dJx4a65c_set_bcc79_5 : decode cJx4a65c_set_bcc79 5 = .ok (.invokestatic 118, 3) := by decide +kernel
theorem dJx4a65c_set_bcc79_8 : decode cJx4a65c_set_bcc79 8 = .ok (.pop, 1) := by decide +kernel
theorem dJx4a65c_set_bcc79_9 : decode cJx4a65c_set_bcc79 9 = .ok (.aload_n 0, 1) := by decide +kernel
theorem dJx4a65c_set_bcc79_10 : decode cJx4a65c_set_bcc79 10 = .ok (.iload_n 1, 1) := by decide +kernel
theorem dJx4a65c_set_bcc79_11 : decode cJx4a65c_set_bcc79 11 = .ok (.invokevirtual 123, 3) := by decide +kernel
theorem dJx4a65c_set_bcc79_14 : decode cJx4a65c_set_bcc79 14 = .ok (.astore_n 3, 1) := by decide +kernel
theorem dJx4a65c_set_bcc79_15 : decode cJx4a65c_set_bcc79 15 = .ok (.aload_n 0, 1) := by decide +kernel
theorem dJx4a65c_set_bcc79_16 : decode cJx4a65c_set_bcc79 16 = .ok (.getfield 9, 3) := by decide +kernel
theorem dJx4a65c_set_bcc79_19 : decode cJx4a65c_set_bcc79 19 = .ok (.iload_n 1, 1) := by decide +kernel
theorem dJx4a65c_set_bcc79_20 : decode cJx4a65c_set_bcc79 20 = .ok (.aload_n 2, 1) := by decide +kernel
theorem dJx4a65c_set_bcc79_21 : decode cJx4a65c_set_bcc79 21 = .ok (.aastore, 1) := by decide +kernel
theorem dJx4a65c_set_bcc79_22 : decode cJx4a65c_set_bcc79 22 = .ok (.aload_n 3, 1) := by decide +kernel
theorem dJx4a65c_set_bcc79_23 : decode cJx4a65c_set_bcc79 23 = .ok (.areturn, 1) := by decide +kernel
theorem dJx4a65c_add_72be8_0 : decode cJx4a65c_add_72be8 0 = .ok (.iload_n 3, 1) := by decide +kernel
theorem dJx4a65c_add_72be8_1 : decode cJx4a65c_add_72be8 1 = .ok (.aload_n 2, 1) := by decide +kernel
theorem dJx4a65c_add_72be8_2 : decode cJx4a65c_add_72be8 2 = .ok (.arraylength, 1) := by decide +kernel
theorem dJx4a65c_add_72be8_3 : decode cJx4a65c_add_72be8 3 = .ok (.if_icmp .ne 8, 3) := by decide +kernel
theorem dJx4a65c_add_72be8_6 : decode cJx4a65c_add_72be8 6 = .ok (.aload_n 0, 1) := by decide +kernel
theorem dJx4a65c_add_72be8_7 : decode cJx4a65c_add_72be8 7 = .ok (.invokevirtual 129, 3) := by decide +kernel
theorem dJx4a65c_add_72be8_10 : decode cJx4a65c_add_72be8 10 = .ok (.astore_n 2, 1) := by decide +kernel
theorem dJx4a65c_add_72be8_11 : decode cJx4a65c_add_72be8 11 = .ok (.aload_n 2, 1) := by decide +kernel
theorem dJx4a65c_add_72be8_12 : decode cJx4a65c_add_72be8 12 = .ok (.iload_n 3, 1) := by decide +kernel
theorem dJx4a65c_add_72be8_13 : decode cJx4a65c_add_72be8 13 = .ok (.aload_n 1, 1) := by decide +kernel
theorem dJx4a65c_add_72be8_14 : decode cJx4a65c_add_72be8 14 = .ok (.aastore, 1) := by decide +kernel
theorem dJx4a65c_add_72be8_15 : decode cJx4a65c_add_72be8 15 = .ok (.aload_n 0, 1) := by decide +kernel
theorem dJx4a65c_add_72be8_16 : decode cJx4a65c_add_72be8 16 = .ok (.iload_n 3, 1) := by decide +kernel
theorem dJx4a65c_add_72be8_17 : decode cJx4a65c_add_72be8 17 = .ok (.iconst 1, 1) := by decide +kernel
theorem dJx4a65c_add_72be8_18 : decode cJx4a65c_add_72be8 18 = .ok (.iadd, 1) := by decide +kernel
theorem dJx4a65c_add_72be8_19 : decode cJx4a65c_add_72be8 19 = .ok (.putfield 48, 3) := by decide +kernel
theorem dJx4a65c_add_72be8_22 : decode cJx4a65c_add_72be8 22 = .ok (.return_, 1) := by decide +kernel
theorem dJx4a65c_add_9ea2d_0 : decode cJx4a65c_add_9ea2d 0 = .ok (.aload_n 0, 1) := by decide +kernel
theorem dJx4a65c_add_9ea2d_1 : decode cJx4a65c_add_9ea2d 1 = .ok (.dup, 1) := by decide +kernel
theorem dJx4a65c_add_9ea2d_2 : decode cJx4a65c_add_9ea2d 2 = .ok (.getfield 63, 3) := by decide +kernel
theorem dJx4a65c_add_9ea2d_5 : decode cJx4a65c_add_9ea2d 5 = .ok (.iconst 1, 1) := by decide +kernel
theorem dJx4a65c_add_9ea2d_6 : decode cJx4a65c_add_9ea2d 6 = .ok (.iadd, 1) := by decide +kernel
theorem dJx4a65c_add_9ea2d_7 : decode cJx4a65c_add_9ea2d 7 = .ok (.putfield 63, 3) := by decide +kernel
theorem dJx4a65c_add_9ea2d_10 : decode cJx4a65c_add_9ea2d 10 = .ok (.aload_n 0, 1) := by decide +kernel
theorem dJx4a65c_add_9ea2d_11 : decode cJx4a65c_add_9ea2d 11 = .ok (.aload_n 1, 1) := by decide +kernel
theorem dJx4a65c_add_9ea2d_12 : decode cJx4a65c_add_9ea2d 12 = .ok (.aload_n 0, 1) := by decide +kernel
theorem dJx4a65c_add_9ea2d_13 : decode cJx4a65c_add_9ea2d 13 = .ok (.getfield 9, 3) := by decide +kernel
theorem dJx4a65c_add_9ea2d_16 : decode cJx4a65c_add_9ea2d 16 = .ok (.aload_n 0, 1) := by decide +kernel
theorem dJx4a65c_add_9ea2d_17 : decode cJx4a65c_add_9ea2d 17 = .ok (.getfield 48, 3) := by decide +kernel
theorem dJx4a65c_add_9ea2d_20 : decode cJx4a65c_add_9ea2d 20 = .ok (.invokevirtual 131, 3) := by decide +kernel
theorem dJx4a65c_add_9ea2d_23 : decode cJx4a65c_add_9ea2d 23 = .ok (.iconst 1, 1) := by decide +kernel
theorem dJx4a65c_add_9ea2d_24 : decode cJx4a65c_add_9ea2d 24 = .ok (.ireturn, 1) := by decide +kernel
theorem dJx4a65c_add_7a177_0 : decode cJx4a65c_add_7a177 0 = .ok (.aload_n 0, 1) := by decide +kernel
theorem dJx4a65c_add_7a177_1 : decode cJx4a65c_add_7a177 1 = .ok (.iload_n 1, 1) := by decide +kernel
theorem dJx4a65c_add_7a177_2 : decode cJx4a65c_add_7a177 2 = .ok (.invokevirtual 135, 3) := by decide +kernel
theorem dJx4a65c_add_7a177_5 : decode cJx4a65c_add_7a177 5 = .ok (.aload_n 0, 1) := by decide +kernel
theorem dJx4a65c_add_7a177_6 : decode cJx4a65c_add_7a177 6 = .ok (.dup, 1) := by decide +kernel
theorem dJx4a65c_add_7a177_7 : decode cJx4a65c_add_7a177 7 = .ok (.getfield 63, 3) := by decide +kernel
theorem dJx4a65c_add_7a177_10 : decode cJx4a65c_add_7a177 10 = .ok (.iconst 1, 1) := by decide +kernel
theorem dJx4a65c_add_7a177_11 : decode cJx4a65c_add_7a177 11 = .ok (.iadd, 1) := by decide +kernel
theorem dJx4a65c_add_7a177_12 : decode cJx4a65c_add_7a177 12 = .ok (.putfield 63, 3) := by decide +kernel
theorem dJx4a65c_add_7a177_15 : decode cJx4a65c_add_7a177 15 = .ok (.aload_n 0, 1) := by decide +kernel
theorem dJx4a65c_add_7a177_16 : decode cJx4a65c_add_7a177 16 = .ok (.getfield 48, 3) := by decide +kernel
theorem dJx4a65c_add_7a177_19 : decode cJx4a65c_add_7a177 19 = .ok (.dup, 1) := by decide +kernel
theorem dJx4a65c_add_7a177_20 : decode cJx4a65c_add_7a177 20 = .ok (.istore_n 3, 1) := by decide +kernel
theorem dJx4a65c_add_7a177_21 : decode cJx4a65c_add_7a177 21 = .ok (.aload_n 0, 1) := by decide +kernel
theorem dJx4a65c_add_7a177_22 : decode cJx4a65c_add_7a177 22 = .ok (.getfield 9, 3) := by decide +kernel
theorem dJx4a65c_add_7a177_25 : decode cJx4a65c_add_7a177 25 = .ok (.dup, 1) := by decide +kernel
theorem dJx4a65c_add_7a177_26 : decode cJx4a65c_add_7a177 26 = .ok (.astore 4, 2) := by decide +kernel
theorem dJx4a65c_add_7a177_28 : decode cJx4a65c_add_7a177 28 = .ok (.arraylength, 1) := by decide +kernel
theorem dJx4a65c_add_7a177_29 : decode cJx4a65c_add_7a177 29 = .ok (.if_icmp .ne 9, 3) := by decide +kernel
theorem dJx4a65c_add_7a177_32 : decode cJx4a65c_add_7a177 32 = .ok (.aload_n 0, 1) := by decide +kernel
theorem dJx4a65c_add_7a177_33 : decode cJx4a65c_add_7a177 33 = .ok (.invokevirtual 129, 3) := by decide +kernel
theorem dJx4a65c_add_7a177_36 : decode cJx4a65c_add_7a177 36 = .ok (.astore 4, 2) := by decide +kernel
theorem dJx4a65c_add_7a177_38 : decode cJx4a65c_add_7a177 38 = .ok (.aload 4, 2) := by decide +kernel
theorem dJx4a65c_add_7a177_40 : decode cJx4a65c_add_7a177 40 = .ok (.iload_n 1, 1) := by decide +kernel
theorem dJx4a65c_add_7a177_41 : decode cJx4a65c_add_7a177 41 = .ok (.aload 4, 2) := by decide +kernel
theorem dJx4a65c_add_7a177_43 : decode cJx4a65c_add_7a177 43 = .ok (.iload_n 1, 1) := by decide +kernel
theorem dJx4a65c_add_7a177_44 : decode cJx4a65c_add_7a177 44 = .ok (.iconst 1, 1) := by decide +kernel
theorem dJx4a65c_add_7a177_45 : decode cJx4a65c_add_7a177 45 = .ok (.iadd, 1) := by decide +kernel
theorem dJx4a65c_add_7a177_46 : decode cJx4a65c_add_7a177 46 = .ok (.iload_n 3, 1) := by decide +kernel
theorem dJx4a65c_add_7a177_47 : decode cJx4a65c_add_7a177 47 = .ok (.iload_n 1, 1) := by decide +kernel
theorem dJx4a65c_add_7a177_48 : decode cJx4a65c_add_7a177 48 = .ok (.isub, 1) := by decide +kernel
theorem dJx4a65c_add_7a177_49 : decode cJx4a65c_add_7a177 49 = .ok (.invokestatic 112, 3) := by decide +kernel
theorem dJx4a65c_add_7a177_52 : decode cJx4a65c_add_7a177 52 = .ok (.aload 4, 2) := by decide +kernel
theorem dJx4a65c_add_7a177_54 : decode cJx4a65c_add_7a177 54 = .ok (.iload_n 1, 1) := by decide +kernel
theorem dJx4a65c_add_7a177_55 : decode cJx4a65c_add_7a177 55 = .ok (.aload_n 2, 1) := by decide +kernel
theorem dJx4a65c_add_7a177_56 : decode cJx4a65c_add_7a177 56 = .ok (.aastore, 1) := by decide +kernel
theorem dJx4a65c_add_7a177_57 : decode cJx4a65c_add_7a177 57 = .ok (.aload_n 0, 1) := by decide +kernel
theorem dJx4a65c_add_7a177_58 : decode cJx4a65c_add_7a177 58 = .ok (.iload_n 3, 1) := by decide +kernel
theorem dJx4a65c_add_7a177_59 : decode cJx4a65c_add_7a177 59 = .ok (.iconst 1, 1) := by decide +kernel
theorem dJx4a65c_add_7a177_60 : decode cJx4a65c_add_7a177 60 = .ok (.iadd, 1) := by decide +kernel
theorem dJx4a65c_add_7a177_61 : decode cJx4a65c_add_7a177 61 = .ok (.putfield 48, 3) := by decide +kernel
theorem dJx4a65c_add_7a177_64 : decode cJx4a65c_add_7a177 64 = .ok (.return_, 1) := by decide +kernel
theorem dJx4a65c_remove_915e3_0 : decode cJx4a65c_remove_915e3 0 = .ok (.iload_n 1, 1) := by decide +kernel
theorem dJx4a65c_remove_915e3_1 : decode cJx4a65c_remove_915e3 1 = .ok (.aload_n 0, 1) := by decide +kernel
theorem dJx4a65c_remove_915e3_2 : decode cJx4a65c_remove_915e3 2 = .ok (.getfield 48, 3) := by decide +kernel
theorem dJx4a65c_remove_915e3_5 : decode cJx4a65c_remove_915e3 5 = .ok (.invokestatic 118, 3) := by decide +kernel
theorem dJx4a65c_remove_915e3_8 : decode cJx4a65c_remove_915e3 8 = .ok (.pop, 1) := by decide +kernel
theorem dJx4a65c_remove_915e3_9 : decode cJx4a65c_remove_915e3 9 = .ok (.aload_n 0, 1) := by decide +kernel
theorem dJx4a65c_remove_915e3_10 : decode cJx4a65c_remove_915e3 10 = .ok (.getfield 9, 3) := by decide +kernel
theorem dJx4a65c_remove_915e3_13 : decode cJx4a65c_remove_915e3 13 = .ok (.astore_n 2, 1) := by decide +kernel
theorem dJx4a65c_remove_915e3_14 : decode cJx4a65c_remove_915e3 14 = .ok (.aload_n 2, 1) := by decide +kernel
theorem dJx4a65c_remove_915e3_15 : decode cJx4a65c_remove_915e3 15 = .ok (.iload_n 1, 1) := by decide +kernel
theorem dJx4a65c_remove_915e3_16 : decode cJx4a65c_remove_915e3 16 = .ok (.aaload, 1) := by decide +kernel
theorem dJx4a65c_remove_915e3_17 : decode cJx4a65c_remove_915e3 17 = .ok (.astore_n 3, 1) := by decide +kernel
theorem dJx4a65c_remove_915e3_18 : decode cJx4a65c_remove_915e3 18 = .ok (.aload_n 0, 1) := by decide +kernel
theorem dJx4a65c_remove_915e3_19 : decode cJx4a65c_remove_915e3 19 = .ok (.aload_n 2, 1) := by decide +kernel
theorem dJx4a65c_remove_915e3_20 : decode cJx4a65c_remove_915e3 20 = .ok (.iload_n 1, 1) := by decide +kernel
theorem dJx4a65c_remove_915e3_21 : decode cJx4a65c_remove_915e3 21 = .ok (.invokevirtual 144, 3) := by decide +kernel
theorem dJx4a65c_remove_915e3_24 : decode cJx4a65c_remove_915e3 24 = .ok (.aload_n 3, 1) := by decide +kernel
theorem dJx4a65c_remove_915e3_25 : decode cJx4a65c_remove_915e3 25 = .ok (.areturn, 1) := by decide +kernel
theorem dJx4a65c_fastRemove_b59b0_0 : decode cJx4a65c_fastRemove_b59b0 0 = .ok (.aload_n 0, 1) := by decide +kernel
theorem dJx4a65c_fastRemove_b59b0_1 : decode cJx4a65c_fastRemove_b59b0 1 = .ok (.dup, 1) := by decide +kernel
theorem dJx4a65c_fastRemove_b59b0_2 : decode cJx4a65c_fastRemove_b59b0 2 = .ok (.getfield 63, 3) := by decide +kernel
theorem dJx4a65c_fastRemove_b59b0_5 : decode cJx4a65c_fastRemove_b59b0 5 = .ok (.iconst 1, 1) := by decide +kernel
theorem dJx4a65c_fastRemove_b59b0_6 : decode cJx4a65c_fastRemove_b59b0 6 = .ok (.iadd, 1) := by decide +kernel
theorem dJx4a65c_fastRemove_b59b0_7 : decode cJx4a65c_fastRemove_b59b0 7 = .ok (.putfield 63, 3) := by decide +kernel
theorem dJx4a65c_fastRemove_b59b0_10 : decode cJx4a65c_fastRemove_b59b0 10 = .ok (.aload_n 0, 1) := by decide +kernel
theorem dJx4a65c_fastRemove_b59b0_11 : decode cJx4a65c_fastRemove_b59b0 11 = .ok (.getfield 48, 3) := by decide +kernel
theorem dJx4a65c_fastRemove_b59b0_14 : decode cJx4a65c_fastRemove_b59b0 14 = .ok (.iconst 1, 1) := by decide +kernel
theorem dJx4a65c_fastRemove_b59b0_15 : decode cJx4a65c_fastRemove_b59b0 15 = .ok (.isub, 1) := by decide +kernel
theorem dJx4a65c_fastRemove_b59b0_16 : decode cJx4a65c_fastRemove_b59b0 16 = .ok (.dup, 1) := by decide +kernel
theorem dJx4a65c_fastRemove_b59b0_17 : decode cJx4a65c_fastRemove_b59b0 17 = .ok (.istore_n 3, 1) := by decide +kernel
theorem dJx4a65c_fastRemove_b59b0_18 : decode cJx4a65c_fastRemove_b59b0 18 = .ok (.iload_n 2, 1) := by decide +kernel
theorem dJx4a65c_fastRemove_b59b0_19 : decode cJx4a65c_fastRemove_b59b0 19 = .ok (.if_icmp .le 15, 3) := by decide +kernel
theorem dJx4a65c_fastRemove_b59b0_22 : decode cJx4a65c_fastRemove_b59b0 22 = .ok (.aload_n 1, 1) := by decide +kernel
theorem dJx4a65c_fastRemove_b59b0_23 : decode cJx4a65c_fastRemove_b59b0 23 = .ok (.iload_n 2, 1) := by decide +kernel
theorem dJx4a65c_fastRemove_b59b0_24 : decode cJx4a65c_fastRemove_b59b0 24 = .ok (.iconst 1, 1) := by decide +kernel
theorem dJx4a65c_fastRemove_b59b0_25 : decode cJx4a65c_fastRemove_b59b0 25 = .ok (.iadd, 1) := by decide +kernel
theorem dJx4a65c_fastRemove_b59b0_26 : decode cJx4a65c_fastRemove_b59b0 26 = .ok (.aload_n 1, 1) := by decide +kernel
theorem dJx4a65c_fastRemove_b59b0_27 : decode cJx4a65c_fastRemove_b59b0 27 = .ok (.iload_n 2, 1) := by decide +kernel
theorem dJx4a65c_fastRemove_b59b0_28 : decode cJx4a65c_fastRemove_b59b0 28 = .ok (.iload_n 3, 1) := by decide +kernel
theorem dJx4a65c_fastRemove_b59b0_29 : decode cJx4a65c_fastRemove_b59b0 29 = .ok (.iload_n 2, 1) := by decide +kernel
theorem dJx4a65c_fastRemove_b59b0_30 : decode cJx4a65c_fastRemove_b59b0 30 = .ok (.isub, 1) := by decide +kernel
theorem dJx4a65c_fastRemove_b59b0_31 : decode cJx4a65c_fastRemove_b59b0 31 = .ok (.invokestatic 112, 3) := by decide +kernel
theorem dJx4a65c_fastRemove_b59b0_34 : decode cJx4a65c_fastRemove_b59b0 34 = .ok (.aload_n 1, 1) := by decide +kernel
theorem dJx4a65c_fastRemove_b59b0_35 : decode cJx4a65c_fastRemove_b59b0 35 = .ok (.aload_n 0, 1) := by decide +kernel
theorem dJx4a65c_fastRemove_b59b0_36 : decode cJx4a65c_fastRemove_b59b0 36 = .ok (.iload_n 3, 1) := by decide +kernel
theorem dJx4a65c_fastRemove_b59b0_37 : decode cJx4a65c_fastRemove_b59b0 37 = .ok (.dup_x1, 1) := by decide +kernel
theorem dJx4a65c_fastRemove_b59b0_38 : decode cJx4a65c_fastRemove_b59b0 38 = .ok (.putfield 48, 3) := by decide +kernel
theorem dJx4a65c_fastRemove_b59b0_41 : decode cJx4a65c_fastRemove_b59b0 41 = .ok (.aconst_null, 1) := by decide +kernel
theorem dJx4a65c_fastRemove_b59b0_42 : decode cJx4a65c_fastRemove_b59b0 42 = .ok (.aastore, 1) := by decide +kernel
theorem dJx4a65c_fastRemove_b59b0_43 : decode cJx4a65c_fastRemove_b59b0 43 = .ok (.return_, 1) := by decide +kernel
theorem dJx4a65c_clear_da8c8_0 : decode cJx4a65c_clear_da8c8 0 = .ok (.aload_n 0, 1) := by decide +kernel
theorem dJx4a65c_clear_da8c8_1 : decode cJx4a65c_clear_da8c8 1 = .ok (.dup, 1) := by decide +kernel
theorem dJx4a65c_clear_da8c8_2 : decode cJx4a65c_clear_da8c8 2 = .ok (.getfield 63, 3) := by decide +kernel
theorem dJx4a65c_clear_da8c8_5 : decode cJx4a65c_clear_da8c8 5 = .ok (.iconst 1, 1) := by decide +kernel
theorem dJx4a65c_clear_da8c8_6 : decode cJx4a65c_clear_da8c8 6 = .ok (.iadd, 1) := by decide +kernel
theorem dJx4a65c_clear_da8c8_7 : decode cJx4a65c_clear_da8c8 7 = .ok (.putfield 63, 3) := by decide +kernel
theorem dJx4a65c_clear_da8c8_10 : decode cJx4a65c_clear_da8c8 10 = .ok (.aload_n 0, 1) := by decide +kernel
theorem dJx4a65c_clear_da8c8_11 : decode cJx4a65c_clear_da8c8 11 = .ok (.getfield 9, 3) := by decide +kernel
theorem dJx4a65c_clear_da8c8_14 : decode cJx4a65c_clear_da8c8 14 = .ok (.astore_n 1, 1) := by decide +kernel
theorem dJx4a65c_clear_da8c8_15 : decode cJx4a65c_clear_da8c8 15 = .ok (.aload_n 0, 1) := by decide +kernel
theorem dJx4a65c_clear_da8c8_16 : decode cJx4a65c_clear_da8c8 16 = .ok (.getfield 48, 3) := by decide +kernel
theorem dJx4a65c_clear_da8c8_19 : decode cJx4a65c_clear_da8c8 19 = .ok (.istore_n 2, 1) := by decide +kernel
theorem dJx4a65c_clear_da8c8_20 : decode cJx4a65c_clear_da8c8 20 = .ok (.aload_n 0, 1) := by decide +kernel
theorem dJx4a65c_clear_da8c8_21 : decode cJx4a65c_clear_da8c8 21 = .ok (.iconst 0, 1) := by decide +kernel
theorem dJx4a65c_clear_da8c8_22 : decode cJx4a65c_clear_da8c8 22 = .ok (.dup_x1, 1) := by decide +kernel
theorem dJx4a65c_clear_da8c8_23 : decode cJx4a65c_clear_da8c8 23 = .ok (.putfield 48, 3) := by decide +kernel
theorem dJx4a65c_clear_da8c8_26 : decode cJx4a65c_clear_da8c8 26 = .ok (.istore_n 3, 1) := by decide +kernel
theorem dJx4a65c_clear_da8c8_27 : decode cJx4a65c_clear_da8c8 27 = .ok (.iload_n 3, 1) := by decide +kernel
theorem dJx4a65c_clear_da8c8_28 : decode cJx4a65c_clear_da8c8 28 = .ok (.iload_n 2, 1) := by decide +kernel
theorem dJx4a65c_clear_da8c8_29 : decode cJx4a65c_clear_da8c8 29 = .ok (.if_icmp .ge 13, 3) := by decide +kernel
theorem dJx4a65c_clear_da8c8_32 : decode cJx4a65c_clear_da8c8 32 = .ok (.aload_n 1, 1) := by decide +kernel
theorem dJx4a65c_clear_da8c8_33 : decode cJx4a65c_clear_da8c8 33 = .ok (.iload_n 3, 1) := by decide +kernel
theorem dJx4a65c_clear_da8c8_34 : decode cJx4a65c_clear_da8c8 34 = .ok (.aconst_null, 1) := by decide +kernel
theorem dJx4a65c_clear_da8c8_35 : decode cJx4a65c_clear_da8c8 35 = .ok (.aastore, 1) := by decide +kernel
theorem dJx4a65c_clear_da8c8_36 : decode cJx4a65c_clear_da8c8 36 = .ok (.iinc 3 1, 3) := by decide +kernel
theorem dJx4a65c_clear_da8c8_39 : decode cJx4a65c_clear_da8c8 39 = .ok (.goto (-12), 3) := by decide +kernel
theorem dJx4a65c_clear_da8c8_42 : decode cJx4a65c_clear_da8c8 42 = .ok (.return_, 1) := by decide +kernel
theorem dJx4a65c_rangeCheckForAdd_d00df_0 : decode cJx4a65c_rangeCheckForAdd_d00df 0 = .ok (.iload_n 1, 1) := by decide +kernel
theorem dJx4a65c_rangeCheckForAdd_d00df_1 : decode cJx4a65c_rangeCheckForAdd_d00df 1 = .ok (.aload_n 0, 1) := by decide +kernel
theorem dJx4a65c_rangeCheckForAdd_d00df_2 : decode cJx4a65c_rangeCheckForAdd_d00df 2 = .ok (.getfield 48, 3) := by decide +kernel
theorem dJx4a65c_rangeCheckForAdd_d00df_5 : decode cJx4a65c_rangeCheckForAdd_d00df 5 = .ok (.if_icmp .gt 7, 3) := by decide +kernel
theorem dJx4a65c_rangeCheckForAdd_d00df_8 : decode cJx4a65c_rangeCheckForAdd_d00df 8 = .ok (.iload_n 1, 1) := by decide +kernel
theorem dJx4a65c_rangeCheckForAdd_d00df_9 : decode cJx4a65c_rangeCheckForAdd_d00df 9 = .ok (.ifCond .ge 16, 3) := by decide +kernel
theorem dJx4a65c_rangeCheckForAdd_d00df_12 : decode cJx4a65c_rangeCheckForAdd_d00df 12 = .ok (.new 187, 3) := by decide +kernel
theorem dJx4a65c_rangeCheckForAdd_d00df_15 : decode cJx4a65c_rangeCheckForAdd_d00df 15 = .ok (.dup, 1) := by decide +kernel
theorem dJx4a65c_rangeCheckForAdd_d00df_16 : decode cJx4a65c_rangeCheckForAdd_d00df 16 = .ok (.aload_n 0, 1) := by decide +kernel
theorem dJx4a65c_rangeCheckForAdd_d00df_17 : decode cJx4a65c_rangeCheckForAdd_d00df 17 = .ok (.iload_n 1, 1) := by decide +kernel
theorem dJx4a65c_rangeCheckForAdd_d00df_18 : decode cJx4a65c_rangeCheckForAdd_d00df 18 = .ok (.invokevirtual 198, 3) := by decide +kernel
theorem dJx4a65c_rangeCheckForAdd_d00df_21 : decode cJx4a65c_rangeCheckForAdd_d00df 21 = .ok (.invokespecial 193, 3) := by decide +kernel
theorem dJx4a65c_rangeCheckForAdd_d00df_24 : decode cJx4a65c_rangeCheckForAdd_d00df 24 = .ok (.athrow, 1) := by decide +kernel
theorem dJx4a65c_rangeCheckForAdd_d00df_25 : decode cJx4a65c_rangeCheckForAdd_d00df 25 = .ok (.return_, 1) := by decide +kernel
theorem dJ7_fill_031fb_0 : decode cJ7_fill_031fb 0 = .ok (.iconst 0, 1) := by decide +kernel
theorem dJ7_fill_031fb_1 : decode cJ7_fill_031fb 1 = .ok (.istore_n 2, 1) := by decide +kernel
theorem dJ7_fill_031fb_2 : decode cJ7_fill_031fb 2 = .ok (.aload_n 0, 1) := by decide +kernel
theorem dJ7_fill_031fb_3 : decode cJ7_fill_031fb 3 = .ok (.arraylength, 1) := by decide +kernel
theorem dJ7_fill_031fb_4 : decode cJ7_fill_031fb 4 = .ok (.istore_n 3, 1) := by decide +kernel
theorem dJ7_fill_031fb_5 : decode cJ7_fill_031fb 5 = .ok (.iload_n 2, 1) := by decide +kernel
theorem dJ7_fill_031fb_6 : decode cJ7_fill_031fb 6 = .ok (.iload_n 3, 1) := by decide +kernel
theorem dJ7_fill_031fb_7 : decode cJ7_fill_031fb 7 = .ok (.if_icmp .ge 13, 3) := by decide +kernel
theorem dJ7_fill_031fb_10 : decode cJ7_fill_031fb 10 = .ok (.aload_n 0, 1) := by decide +kernel
theorem dJ7_fill_031fb_11 : decode cJ7_fill_031fb 11 = .ok (.iload_n 2, 1) := by decide +kernel
theorem dJ7_fill_031fb_12 : decode cJ7_fill_031fb 12 = .ok (.iload_n 1, 1) := by decide +kernel
theorem dJ7_fill_031fb_13 : decode cJ7_fill_031fb 13 = .ok (.bastore, 1) := by decide +kernel
theorem dJ7_fill_031fb_14 : decode cJ7_fill_031fb 14 = .ok (.iinc 2 1, 3) := by decide +kernel
theorem dJ7_fill_031fb_17 : decode cJ7_fill_031fb 17 = .ok (.goto (-12), 3) := by decide +kernel
theorem dJ7_fill_031fb_20 : decode cJ7_fill_031fb 20 = .ok (.return_, 1) := by decide +kernel
theorem dJ7_copyOf_1904c_0 : decode cJ7_copyOf_1904c 0 = .ok (.aload_n 0, 1) := by decide +kernel
theorem dJ7_copyOf_1904c_1 : decode cJ7_copyOf_1904c 1 = .ok (.iload_n 1, 1) := by decide +kernel
theorem dJ7_copyOf_1904c_2 : decode cJ7_copyOf_1904c 2 = .ok (.aload_n 0, 1) := by decide +kernel
theorem dJ7_copyOf_1904c_3 : decode cJ7_copyOf_1904c 3 = .ok (.invokevirtual 86, 3) := by decide +kernel
theorem dJ7_copyOf_1904c_6 : decode cJ7_copyOf_1904c 6 = .ok (.invokestatic 300, 3) := by decide +kernel
theorem dJ7_copyOf_1904c_9 : decode cJ7_copyOf_1904c 9 = .ok (.areturn, 1) := by decide +kernel
theorem dJ7_copyOf_6403c_0 : decode cJ7_copyOf_6403c 0 = .ok (.aload_n 2, 1) := by decide +kernel
theorem dJ7_copyOf_6403c_1 : decode cJ7_copyOf_6403c 1 = .ok (.ldc 110, 2) := by decide +kernel
theorem dJ7_copyOf_6403c_3 : decode cJ7_copyOf_6403c 3 = .ok (.if_acmp .ne 10, 3) := by decide +kernel
theorem dJ7_copyOf_6403c_6 : decode cJ7_copyOf_6403c 6 = .ok (.iload_n 1, 1) := by decide +kernel
theorem dJ7_copyOf_6403c_7 : decode cJ7_copyOf_6403c 7 = .ok (.anewarray 2, 3) := by decide +kernel
theorem dJ7_copyOf_6403c_10 : decode cJ7_copyOf_6403c 10 = .ok (.goto 14, 3) := by decide +kernel
theorem dJ7_copyOf_6403c_13 : decode cJ7_copyOf_6403c 13 = .ok (.aload_n 2, 1) := by decide +kernel
theorem dJ7_copyOf_6403c_14 : decode cJ7_copyOf_6403c 14 = .ok (.invokevirtual 90, 3) := by decide +kernel
theorem dJ7_copyOf_6403c_17 : decode cJ7_copyOf_6403c 17 = .ok (.iload_n 1, 1) := by decide +kernel
theorem dJ7_copyOf_6403c_18 : decode cJ7_copyOf_6403c 18 = .ok (.invokestatic 95, 3) := by decide +kernel
theorem dJ7_copyOf_6403c_21 : decode cJ7_copyOf_6403c 21 = .ok (.checkcast 110, 3) := by decide +kernel
theorem dJ7_copyOf_6403c_24 : decode cJ7_copyOf_6403c 24 = .ok (.astore_n 3, 1) := by decide +kernel
theorem dJ7_copyOf_6403c_25 : decode cJ7_copyOf_6403c 25 = .ok (.aload_n 0, 1) := by decide +kernel
theorem dJ7_copyOf_6403c_26 : decode cJ7_copyOf_6403c 26 = .ok (.iconst 0, 1) := by decide +kernel
theorem dJ7_copyOf_6403c_27 : decode cJ7_copyOf_6403c 27 = .ok (.aload_n 3, 1) := by decide +kernel
theorem dJ7_copyOf_6403c_28 : decode cJ7_copyOf_6403c 28 = .ok (.iconst 0, 1) := by decide +kernel
theorem dJ7_copyOf_6403c_29 : decode cJ7_copyOf_6403c 29 = .ok (.aload_n 0, 1) := by decide +kernel
theorem dJ7_copyOf_6403c_30 : decode cJ7_copyOf_6403c 30 = .ok (.arraylength, 1) := by decide +kernel
theorem dJ7_copyOf_6403c_31 : decode cJ7_copyOf_6403c 31 = .ok (.iload_n 1, 1) := by decide +kernel
theorem dJ7_copyOf_6403c_32 : decode cJ7_copyOf_6403c 32 = .ok (.invokestatic 304, 3) := by decide +kernel
theorem dJ7_copyOf_6403c_35 : decode cJ7_copyOf_6403c 35 = .ok (.invokestatic 150, 3) := by decide +kernel
theorem dJ7_copyOf_6403c_38 : decode cJ7_copyOf_6403c 38 = .ok (.aload_n 3, 1) := by decide +kernel
theorem dJ7_copyOf_6403c_39 : decode cJ7_copyOf_6403c 39 = .ok (.areturn, 1) := by decide +kernel
theorem dJ7_copyOf_9075b_0 : decode cJ7_copyOf_9075b 0 = .ok (.iload_n 1, 1) := by decide +kernel
theorem dJ7_copyOf_9075b_1 : decode cJ7_copyOf_9075b 1 = .ok (.aload_n 0, 1) := by decide +kernel
theorem dJ7_copyOf_9075b_2 : decode cJ7_copyOf_9075b 2 = .ok (.arraylength, 1) := by decide +kernel
theorem dJ7_copyOf_9075b_3 : decode cJ7_copyOf_9075b 3 = .ok (.if_icmp .ne 11, 3) := by decide +kernel
theorem dJ7_copyOf_9075b_6 : decode cJ7_copyOf_9075b 6 = .ok (.aload_n 0, 1) := by decide +kernel
theorem dJ7_copyOf_9075b_7 : decode cJ7_copyOf_9075b 7 = .ok (.invokevirtual 310, 3) := by decide +kernel
theorem dJ7_copyOf_9075b_10 : decode cJ7_copyOf_9075b 10 = .ok (.checkcast 311, 3) := by decide +kernel
theorem dJ7_copyOf_9075b_13 : decode cJ7_copyOf_9075b 13 = .ok (.areturn, 1) := by decide +kernel
theorem dJ7_copyOf_9075b_14 : decode cJ7_copyOf_9075b 14 = .ok (.iload_n 1, 1) := by decide +kernel
theorem dJ7_copyOf_9075b_15 : decode cJ7_copyOf_9075b 15 = .ok (.newarray .byte, 2) := by decide +kernel
theorem dJ7_copyOf_9075b_17 : decode cJ7_copyOf_9075b 17 = .ok (.astore_n 2, 1) := by decide +kernel
theorem dJ7_copyOf_9075b_18 : decode cJ7_copyOf_9075b 18 = .ok (.aload_n 0, 1) := by decide +kernel
theorem dJ7_copyOf_9075b_19 : decode cJ7_copyOf_9075b 19 = .ok (.iconst 0, 1) := by decide +kernel
theorem dJ7_copyOf_9075b_20 : decode cJ7_copyOf_9075b 20 = .ok (.aload_n 2, 1) := by decide +kernel
theorem dJ7_copyOf_9075b_21 : decode cJ7_copyOf_9075b 21 = .ok (.iconst 0, 1) := by decide +kernel
theorem dJ7_copyOf_9075b_22 : decode cJ7_copyOf_9075b 22 = .ok (.aload_n 0, 1) := by decide +kernel
theorem dJ7_copyOf_9075b_23 : decode cJ7_copyOf_9075b 23 = .ok (.arraylength, 1) := by decide +kernel
theorem dJ7_copyOf_9075b_24 : decode cJ7_copyOf_9075b 24 = .ok (.iload_n 1, 1) := by decide +kernel
theorem dJ7_copyOf_9075b_25 : decode cJ7_copyOf_9075b 25 = .ok (.invokestatic 304, 3) := by decide +kernel
theorem dJ7_copyOf_9075b_28 : decode cJ7_copyOf_9075b 28 = .ok (.invokestatic 150, 3) := by decide +kernel
theorem dJ7_copyOf_9075b_31 : decode cJ7_copyOf_9075b 31 = .ok (.aload_n 2, 1) := by decide +kernel
theorem dJ7_copyOf_9075b_32 : decode cJ7_copyOf_9075b 32 = .ok (.areturn, 1) := by decide +kernel
theorem dJ7_checkLength_df160_0 : decode cJ7_checkLength_df160 0 = .ok (.iload_n 1, 1) := by decide +kernel
theorem dJ7_checkLength_df160_1 : decode cJ7_checkLength_df160 1 = .ok (.iload_n 0, 1) := by decide +kernel
theorem dJ7_checkLength_df160_2 : decode cJ7_checkLength_df160 2 = .ok (.if_icmp .ge 35, 3) := by decide +kernel
theorem dJ7_checkLength_df160_5 : decode cJ7_checkLength_df160 5 = .ok (.new 43, 3) := by decide +kernel
theorem dJ7_checkLength_df160_8 : decode cJ7_checkLength_df160 8 = .ok (.dup, 1) := by decide +kernel
theorem dJ7_checkLength_df160_9 : decode cJ7_checkLength_df160 9 = .ok (.new 45, 3) := by decide +kernel
theorem dJ7_checkLength_df160_12 : decode cJ7_checkLength_df160 12 = .ok (.dup, 1) := by decide +kernel
theorem dJ7_checkLength_df160_13 : decode cJ7_checkLength_df160 13 = .ok (.invokespecial 47, 3) := by decide +kernel
theorem dJ7_checkLength_df160_16 : decode cJ7_checkLength_df160 16 = .ok (.iload_n 0, 1) := by decide +kernel
theorem dJ7_checkLength_df160_17 : decode cJ7_checkLength_df160 17 = .ok (.invokevirtual 54, 3) := by decide +kernel
theorem dJ7_checkLength_df160_20 : decode cJ7_checkLength_df160 20 = .ok (.ldc_w 337, 3) := by decide +kernel
theorem dJ7_checkLength_df160_23 : decode cJ7_checkLength_df160 23 = .ok (.invokevirtual 50, 3) := by decide +kernel
theorem dJ7_checkLength_df160_26 : decode cJ7_checkLength_df160 26 = .ok (.iload_n 1, 1) := by decide +kernel
theorem dJ7_checkLength_df160_27 : decode cJ7_checkLength_df160 27 = .ok (.invokevirtual 54, 3) := by decide +kernel
theorem dJ7_checkLength_df160_30 : decode cJ7_checkLength_df160 30 = .ok (.invokevirtual 61, 3) := by decide +kernel
theorem dJ7_checkLength_df160_33 : decode cJ7_checkLength_df160 33 = .ok (.invokespecial 65, 3) := by decide +kernel
theorem dJ7_checkLength_df160_36 : decode cJ7_checkLength_df160 36 = .ok (.athrow, 1) := by decide +kernel
theorem dJ7_checkLength_df160_37 : decode cJ7_checkLength_df160 37 = .ok (.return_, 1) := by decide +kernel
theorem dJ7_copyOfRange_39247_0 : decode cJ7_copyOfRange_39247 0 = .ok (.iload_n 1, 1) := by decide +kernel
theorem dJ7_copyOfRange_39247_1 : decode cJ7_copyOfRange_39247 1 = .ok (.ifCond .ne 9, 3) := by decide +kernel
theorem dJ7_copyOfRange_39247_4 : decode cJ7_copyOfRange_39247 4 = .ok (.iload_n 2, 1) := by decide +kernel
theorem dJ7_copyOfRange_39247_5 : decode cJ7_copyOfRange_39247 5 = .ok (.aload_n 0, 1) := by decide +kernel
theorem dJ7_copyOfRange_39247_6 : decode cJ7_copyOfRange_39247 6 = .ok (.arraylength, 1) := by decide +kernel
theorem dJ7_copyOfRange_39247_7 : decode cJ7_copyOfRange_39247 7 = .ok (.if_icmp .eq 10, 3) := by decide +kernel
theorem dJ7_copyOfRange_39247_10 : decode cJ7_copyOfRange_39247 10 = .ok (.aload_n 0, 1) := by decide +kernel
theorem dJ7_copyOfRange_39247_11 : decode cJ7_copyOfRange_39247 11 = .ok (.iload_n 1, 1) := by decide +kernel
theorem dJ7_copyOfRange_39247_12 : decode cJ7_copyOfRange_39247 12 = .ok (.iload_n 2, 1) := by decide +kernel
theorem dJ7_copyOfRange_39247_13 : decode cJ7_copyOfRange_39247 13 = .ok (.invokestatic 339, 3) := by decide +kernel
theorem dJ7_copyOfRange_39247_16 : decode cJ7_copyOfRange_39247 16 = .ok (.areturn, 1) := by decide +kernel
theorem dJ7_copyOfRange_39247_17 : decode cJ7_copyOfRange_39247 17 = .ok (.aload_n 0, 1) := by decide +kernel
theorem dJ7_copyOfRange_39247_18 : decode cJ7_copyOfRange_39247 18 = .ok (.invokevirtual 310, 3) := by decide +kernel
theorem dJ7_copyOfRange_39247_21 : decode cJ7_copyOfRange_39247 21 = .ok (.checkcast 311, 3) := by decide +kernel
theorem dJ7_copyOfRange_39247_24 : decode cJ7_copyOfRange_39247 24 = .ok (.areturn, 1) := by decide +kernel
theorem dJ7_copyOfRangeByte_39247_0 : decode cJ7_copyOfRangeByte_39247 0 = .ok (.iload_n 1, 1) := by decide +kernel
theorem dJ7_copyOfRangeByte_39247_1 : decode cJ7_copyOfRangeByte_39247 1 = .ok (.iload_n 2, 1) := by decide +kernel
theorem dJ7_copyOfRangeByte_39247_2 : decode cJ7_copyOfRangeByte_39247 2 = .ok (.invokestatic 343, 3) := by decide +kernel
theorem dJ7_copyOfRangeByte_39247_5 : decode cJ7_copyOfRangeByte_39247 5 = .ok (.iload_n 2, 1) := by decide +kernel
theorem dJ7_copyOfRangeByte_39247_6 : decode cJ7_copyOfRangeByte_39247 6 = .ok (.iload_n 1, 1) := by decide +kernel
theorem dJ7_copyOfRangeByte_39247_7 : decode cJ7_copyOfRangeByte_39247 7 = .ok (.isub, 1) := by decide +kernel
theorem dJ7_copyOfRangeByte_39247_8 : decode cJ7_copyOfRangeByte_39247 8 = .ok (.istore_n 3, 1) := by decide +kernel
theorem dJ7_copyOfRangeByte_39247_9 : decode cJ7_copyOfRangeByte_39247 9 = .ok (.iload_n 3, 1) := by decide +kernel
theorem dJ7_copyOfRangeByte_39247_10 : decode cJ7_copyOfRangeByte_39247 10 = .ok (.newarray .byte, 2) := by decide +kernel
theorem dJ7_copyOfRangeByte_39247_12 : decode cJ7_copyOfRangeByte_39247 12 = .ok (.astore 4, 2) := by decide +kernel
theorem dJ7_copyOfRangeByte_39247_14 : decode cJ7_copyOfRangeByte_39247 14 = .ok (.aload_n 0, 1) := by decide +kernel
theorem dJ7_copyOfRangeByte_39247_15 : decode cJ7_copyOfRangeByte_39247 15 = .ok (.iload_n 1, 1) := by decide +kernel
theorem dJ7_copyOfRangeByte_39247_16 : decode cJ7_copyOfRangeByte_39247 16 = .ok (.aload 4, 2) := by decide +kernel
theorem dJ7_copyOfRangeByte_39247_18 : decode cJ7_copyOfRangeByte_39247 18 = .ok (.iconst 0, 1) := by decide +kernel
theorem dJ7_copyOfRangeByte_39247_19 : decode cJ7_copyOfRangeByte_39247 19 = .ok (.aload_n 0, 1) := by decide +kernel
theorem dJ7_copyOfRangeByte_39247_20 : decode cJ7_copyOfRangeByte_39247 20 = .ok (.arraylength, 1) := by decide +kernel
theorem dJ7_copyOfRangeByte_39247_21 : decode cJ7_copyOfRangeByte_39247 21 = .ok (.iload_n 1, 1) := by decide +kernel
theorem dJ7_copyOfRangeByte_39247_22 : decode cJ7_copyOfRangeByte_39247 22 = .ok (.isub, 1) := by decide +kernel
theorem dJ7_copyOfRangeByte_39247_23 : decode cJ7_copyOfRangeByte_39247 23 = .ok (.iload_n 3, 1) := by decide +kernel
theorem dJ7_copyOfRangeByte_39247_24 : decode cJ7_copyOfRangeByte_39247 24 = .ok (.invokestatic 304, 3) := by decide +kernel
theorem dJ7_copyOfRangeByte_39247_27 : decode cJ7_copyOfRangeByte_39247 27 = .ok (.invokestatic 150, 3) := by decide +kernel
theorem dJ7_copyOfRangeByte_39247_30 : decode cJ7_copyOfRangeByte_39247 30 = .ok (.aload 4, 2) := by decide +kernel
theorem dJ7_copyOfRangeByte_39247_32 : decode cJ7_copyOfRangeByte_39247 32 = .ok (.areturn, 1) := by decide +kernel
theorem dJ15_checkIndex_7cf53_0 : decode cJ15_checkIndex_7cf53 0 = .ok (.iload_n 0, 1) := by decide +kernel
theorem dJ15_checkIndex_7cf53_1 : decode cJ15_checkIndex_7cf53 1 = .ok (.iload_n 1, 1) := by decide +kernel
theorem dJ15_checkIndex_7cf53_2 : decode cJ15_checkIndex_7cf53 2 = .ok (.aconst_null, 1) := by decide +kernel
theorem dJ15_checkIndex_7cf53_3 : decode cJ15_checkIndex_7cf53 3 = .ok (.invokestatic 105, 3) := by decide +kernel
theorem dJ15_checkIndex_7cf53_6 : decode cJ15_checkIndex_7cf53 6 = .ok (.ireturn, 1) := by decide +kernel
theorem dJ8_newLength_cabcc_0 : decode cJ8_newLength_cabcc 0 = .ok (.iload_n 0, 1) := by decide +kernel
theorem dJ8_newLength_cabcc_1 : decode cJ8_newLength_cabcc 1 = .ok (.iload_n 1, 1) := by decide +kernel
theorem dJ8_newLength_cabcc_2 : decode cJ8_newLength_cabcc 2 = .ok (.iload_n 2, 1) := by decide +kernel
theorem dJ8_newLength_cabcc_3 : decode cJ8_newLength_cabcc 3 = .ok (.invokestatic 194, 3) := by decide +kernel
theorem dJ8_newLength_cabcc_6 : decode cJ8_newLength_cabcc 6 = .ok (.iadd, 1) := by decide +kernel
theorem dJ8_newLength_cabcc_7 : decode cJ8_newLength_cabcc 7 = .ok (.istore_n 3, 1) := by decide +kernel
theorem dJ8_newLength_cabcc_8 : decode cJ8_newLength_cabcc 8 = .ok (.iconst 0, 1) := by decide +kernel
theorem dJ8_newLength_cabcc_9 : decode cJ8_newLength_cabcc 9 = .ok (.iload_n 3, 1) := by decide +kernel
theorem dJ8_newLength_cabcc_10 : decode cJ8_newLength_cabcc 10 = .ok (.if_icmp .ge 11, 3) := by decide +kernel
theorem dJ8_newLength_cabcc_13 : decode cJ8_newLength_cabcc 13 = .ok (.iload_n 3, 1) := by decide +kernel
theorem dJ8_newLength_cabcc_14 : decode cJ8_newLength_cabcc 14 = .ok (.ldc 200, 2) := by decide +kernel
theorem dJ8_newLength_cabcc_16 : decode cJ8_newLength_cabcc 16 = .ok (.if_icmp .gt 5, 3) := by decide +kernel
theorem dJ8_newLength_cabcc_19 : decode cJ8_newLength_cabcc 19 = .ok (.iload_n 3, 1) := by decide +kernel
theorem dJ8_newLength_cabcc_20 : decode cJ8_newLength_cabcc 20 = .ok (.ireturn, 1) := by decide +kernel
theorem dJ8_newLength_cabcc_21 : decode cJ8_newLength_cabcc 21 = .ok (.iload_n 0, 1) := by decide +kernel
theorem dJ8_newLength_cabcc_22 : decode cJ8_newLength_cabcc 22 = .ok (.iload_n 1, 1) := by decide +kernel
theorem dJ8_newLength_cabcc_23 : decode cJ8_newLength_cabcc 23 = .ok (.invokestatic 201, 3) := by decide +kernel
theorem dJ8_newLength_cabcc_26 : decode cJ8_newLength_cabcc 26 = .ok (.ireturn, 1) := by decide +kernel
theorem dJ8_hugeLength_7cf53_0 : decode cJ8_hugeLength_7cf53 0 = .ok (.iload_n 0, 1) := by decide +kernel
theorem dJ8_hugeLength_7cf53_1 : decode cJ8_hugeLength_7cf53 1 = .ok (.iload_n 1, 1) := by decide +kernel
theorem dJ8_hugeLength_7cf53_2 : decode cJ8_hugeLength_7cf53 2 = .ok (.iadd, 1) := by decide +kernel
theorem dJ8_hugeLength_7cf53_3 : decode cJ8_hugeLength_7cf53 3 = .ok (.istore_n 2, 1) := by decide +kernel
theorem dJ8_hugeLength_7cf53_4 : decode cJ8_hugeLength_7cf53 4 = .ok (.iload_n 2, 1) := by decide +kernel
theorem dJ8_hugeLength_7cf53_5 : decode cJ8_hugeLength_7cf53 5 = .ok (.ifCond .ge 44, 3) := by decide +kernel
theorem dJ8_hugeLength_7cf53_8 : decode cJ8_hugeLength_7cf53 8 = .ok (.new 204, 3) := by decide +kernel
theorem dJ8_hugeLength_7cf53_11 : decode cJ8_hugeLength_7cf53 11 = .ok (.dup, 1) := by decide +kernel
theorem dJ8_hugeLength_7cf53_12 : decode cJ8_hugeLength_7cf53 12 = .ok (.new 89, 3) := by decide +kernel
theorem dJ8_hugeLength_7cf53_15 : decode cJ8_hugeLength_7cf53 15 = .ok (.dup, 1) := by decide +kernel
theorem dJ8_hugeLength_7cf53_16 : decode cJ8_hugeLength_7cf53 16 = .ok (.invokespecial 91, 3) := by decide +kernel
theorem dJ8_hugeLength_7cf53_19 : decode cJ8_hugeLength_7cf53 19 = .ok (.ldc 206, 2) := by decide +kernel
theorem dJ8_hugeLength_7cf53_21 : decode cJ8_hugeLength_7cf53 21 = .ok (.invokevirtual 94, 3) := by decide +kernel
theorem dJ8_hugeLength_7cf53_24 : decode cJ8_hugeLength_7cf53 24 = .ok (.iload_n 0, 1) := by decide +kernel
theorem dJ8_hugeLength_7cf53_25 : decode cJ8_hugeLength_7cf53 25 = .ok (.invokevirtual 98, 3) := by decide +kernel
theorem dJ8_hugeLength_7cf53_28 : decode cJ8_hugeLength_7cf53 28 = .ok (.ldc 208, 2) := by decide +kernel
theorem dJ8_hugeLength_7cf53_30 : decode cJ8_hugeLength_7cf53 30 = .ok (.invokevirtual 94, 3) := by decide +kernel
theorem dJ8_hugeLength_7cf53_33 : decode cJ8_hugeLength_7cf53 33 = .ok (.iload_n 1, 1) := by decide +kernel
theorem dJ8_hugeLength_7cf53_34 : decode cJ8_hugeLength_7cf53 34 = .ok (.invokevirtual 98, 3) := by decide +kernel
theorem dJ8_hugeLength_7cf53_37 : decode cJ8_hugeLength_7cf53 37 = .ok (.ldc 210, 2) := by decide +kernel
theorem dJ8_hugeLength_7cf53_39 : decode cJ8_hugeLength_7cf53 39 = .ok (.invokevirtual 94, 3) := by decide +kernel
theorem dJ8_hugeLength_7cf53_42 : decode cJ8_hugeLength_7cf53 42 = .ok (.invokevirtual 101, 3) := by decide +kernel
theorem dJ8_hugeLength_7cf53_45 : decode cJ8_hugeLength_7cf53 45 = .ok (.invokespecial 212, 3) := by decide +kernel
theorem dJ8_hugeLength_7cf53_48 : decode cJ8_hugeLength_7cf53 48 = .ok (.athrow, 1) := by decide +kernel
theorem dJ8_hugeLength_7cf53_49 : decode cJ8_hugeLength_7cf53 49 = .ok (.iload_n 2, 1) := by decide +kernel
theorem dJ8_hugeLength_7cf53_50 : decode cJ8_hugeLength_7cf53 50 = .ok (.ldc 200, 2) := by decide +kernel
theorem dJ8_hugeLength_7cf53_52 : decode cJ8_hugeLength_7cf53 52 = .ok (.if_icmp .gt 6, 3) := by decide +kernel
theorem dJ8_hugeLength_7cf53_55 : decode cJ8_hugeLength_7cf53 55 = .ok (.ldc 200, 2) := by decide +kernel
theorem dJ8_hugeLength_7cf53_57 : decode cJ8_hugeLength_7cf53 57 = .ok (.ireturn, 1) := by decide +kernel
theorem dJ8_hugeLength_7cf53_58 : decode cJ8_hugeLength_7cf53 58 = .ok (.iload_n 2, 1) := by decide +kernel
theorem dJ8_hugeLength_7cf53_59 : decode cJ8_hugeLength_7cf53 59 = .ok (.ireturn, 1) := by decide +kernel
theorem dJ3_checkIndex_8e157_0 : decode cJ3_checkIndex_8e157 0 = .ok (.iload_n 0, 1) := by decide +kernel
theorem dJ3_checkIndex_8e157_1 : decode cJ3_checkIndex_8e157 1 = .ok (.ifCond .lt 8, 3) := by decide +kernel
theorem dJ3_checkIndex_8e157_4 : decode cJ3_checkIndex_8e157 4 = .ok (.iload_n 0, 1) := by decide +kernel
theorem dJ3_checkIndex_8e157_5 : decode cJ3_checkIndex_8e157 5 = .ok (.iload_n 1, 1) := by decide +kernel
theorem dJ3_checkIndex_8e157_6 : decode cJ3_checkIndex_8e157 6 = .ok (.if_icmp .lt 10, 3) := by decide +kernel
theorem dJ3_checkIndex_8e157_9 : decode cJ3_checkIndex_8e157 9 = .ok (.aload_n 2, 1) := by decide +kernel
theorem dJ3_checkIndex_8e157_10 : decode cJ3_checkIndex_8e157 10 = .ok (.iload_n 0, 1) := by decide +kernel
theorem dJ3_checkIndex_8e157_11 : decode cJ3_checkIndex_8e157 11 = .ok (.iload_n 1, 1) := by decide +kernel
theorem dJ3_checkIndex_8e157_12 : decode cJ3_checkIndex_8e157 12 = .ok (.invokestatic 95, 3) := by decide +kernel
theorem dJ3_checkIndex_8e157_15 : decode cJ3_checkIndex_8e157 15 = .ok (.athrow, 1) := by decide +kernel
theorem dJ3_checkIndex_8e157_16 : decode cJ3_checkIndex_8e157 16 = .ok (.iload_n 0, 1) := by decide +kernel
theorem dJ3_checkIndex_8e157_17 : decode cJ3_checkIndex_8e157 17 = .ok (.ireturn, 1) := by decide +kernel
theorem dL_law_0 : decode cL_law 0 = .ok (.new 7, 3) := by decide +kernel
theorem dL_law_3 : decode cL_law 3 = .ok (.dup, 1) := by decide +kernel
theorem dL_law_4 : decode cL_law 4 = .ok (.invokespecial 9, 3) := by decide +kernel
theorem dL_law_7 : decode cL_law 7 = .ok (.astore_n 1, 1) := by decide +kernel
theorem dL_law_8 : decode cL_law 8 = .ok (.new 10, 3) := by decide +kernel
theorem dL_law_11 : decode cL_law 11 = .ok (.dup, 1) := by decide +kernel
theorem dL_law_12 : decode cL_law 12 = .ok (.invokespecial 12, 3) := by decide +kernel
theorem dL_law_15 : decode cL_law 15 = .ok (.astore_n 2, 1) := by decide +kernel
theorem dL_law_16 : decode cL_law 16 = .ok (.iconst 0, 1) := by decide +kernel
theorem dL_law_17 : decode cL_law 17 = .ok (.istore_n 3, 1) := by decide +kernel
theorem dL_law_18 : decode cL_law 18 = .ok (.iload_n 3, 1) := by decide +kernel
theorem dL_law_19 : decode cL_law 19 = .ok (.aload_n 0, 1) := by decide +kernel
theorem dL_law_20 : decode cL_law 20 = .ok (.arraylength, 1) := by decide +kernel
theorem dL_law_21 : decode cL_law 21 = .ok (.iconst 5, 1) := by decide +kernel
theorem dL_law_22 : decode cL_law 22 = .ok (.isub, 1) := by decide +kernel
theorem dL_law_23 : decode cL_law 23 = .ok (.if_icmp .gt 1364, 3) := by decide +kernel
theorem dL_law_26 : decode cL_law 26 = .ok (.aload_n 0, 1) := by decide +kernel
theorem dL_law_27 : decode cL_law 27 = .ok (.iload_n 3, 1) := by decide +kernel
theorem dL_law_28 : decode cL_law 28 = .ok (.iaload, 1) := by decide +kernel
theorem dL_law_29 : decode cL_law 29 = .ok (.bipush 63, 2) := by decide +kernel
theorem dL_law_31 : decode cL_law 31 = .ok (.iand, 1) := by decide +kernel
theorem dL_law_32 : decode cL_law 32 = .ok (.tableswitch 1349 0 35 #[160, 223, 246, 269, 322, 375, 438, 491, 584, 637, 690, 743, 796, 810, 823, 836, 849, 862, 875, 888, 921, 954, 997, 1050, 1063, 1076, 1139, 1162, 1185, 1198, 1221, 1234, 1247, 1280, 1303, 1326], 160) := by decide +kernel
theorem dL_law_192 : decode cL_law 192 = .ok (.aload_n 1, 1) := by decide +kernel
theorem dL_law_193 : decode cL_law 193 = .ok (.aload_n 0, 1) := by decide +kernel
theorem dL_law_194 : decode cL_law 194 = .ok (.iload_n 3, 1) := by decide +kernel
theorem dL_law_195 : decode cL_law 195 = .ok (.iconst 1, 1) := by decide +kernel
theorem dL_law_196 : decode cL_law 196 = .ok (.iadd, 1) := by decide +kernel
theorem dL_law_197 : decode cL_law 197 = .ok (.iaload, 1) := by decide +kernel
theorem dL_law_198 : decode cL_law 198 = .ok (.i2l, 1) := by decide +kernel
theorem dL_law_199 : decode cL_law 199 = .ok (.bipush 32, 2) := by decide +kernel
theorem dL_law_201 : decode cL_law 201 = .ok (.lshl, 1) := by decide +kernel
theorem dL_law_202 : decode cL_law 202 = .ok (.aload_n 0, 1) := by decide +kernel
theorem dL_law_203 : decode cL_law 203 = .ok (.iload_n 3, 1) := by decide +kernel
theorem dL_law_204 : decode cL_law 204 = .ok (.iconst 2, 1) := by decide +kernel
theorem dL_law_205 : decode cL_law 205 = .ok (.iadd, 1) := by decide +kernel
theorem dL_law_206 : decode cL_law 206 = .ok (.iaload, 1) := by decide +kernel
theorem dL_law_207 : decode cL_law 207 = .ok (.i2l, 1) := by decide +kernel
theorem dL_law_208 : decode cL_law 208 = .ok (.ldc2_w 13, 3) := by decide +kernel
theorem dL_law_211 : decode cL_law 211 = .ok (.land, 1) := by decide +kernel
theorem dL_law_212 : decode cL_law 212 = .ok (.lor, 1) := by decide +kernel
theorem dL_law_213 : decode cL_law 213 = .ok (.aload_n 0, 1) := by decide +kernel
theorem dL_law_214 : decode cL_law 214 = .ok (.iload_n 3, 1) := by decide +kernel
theorem dL_law_215 : decode cL_law 215 = .ok (.iconst 3, 1) := by decide +kernel
theorem dL_law_216 : decode cL_law 216 = .ok (.iadd, 1) := by decide +kernel
theorem dL_law_217 : decode cL_law 217 = .ok (.iaload, 1) := by decide +kernel
theorem dL_law_218 : decode cL_law 218 = .ok (.invokevirtual 15, 3) := by decide +kernel
theorem dL_law_221 : decode cL_law 221 = .ok (.aload_n 2, 1) := by decide +kernel
theorem dL_law_222 : decode cL_law 222 = .ok (.aload_n 0, 1) := by decide +kernel
theorem dL_law_223 : decode cL_law 223 = .ok (.iload_n 3, 1) := by decide +kernel
theorem dL_law_224 : decode cL_law 224 = .ok (.iconst 1, 1) := by decide +kernel
theorem dL_law_225 : decode cL_law 225 = .ok (.iadd, 1) := by decide +kernel
theorem dL_law_226 : decode cL_law 226 = .ok (.iaload, 1) := by decide +kernel
theorem dL_law_227 : decode cL_law 227 = .ok (.i2l, 1) := by decide +kernel
theorem dL_law_228 : decode cL_law 228 = .ok (.bipush 32, 2) := by decide +kernel
theorem dL_law_230 : decode cL_law 230 = .ok (.lshl, 1) := by decide +kernel
theorem dL_law_231 : decode cL_law 231 = .ok (.aload_n 0, 1) := by decide +kernel
theorem dL_law_232 : decode cL_law 232 = .ok (.iload_n 3, 1) := by decide +kernel
theorem dL_law_233 : decode cL_law 233 = .ok (.iconst 2, 1) := by decide +kernel
theorem dL_law_234 : decode cL_law 234 = .ok (.iadd, 1) := by decide +kernel
theorem dL_law_235 : decode cL_law 235 = .ok (.iaload, 1) := by decide +kernel
theorem dL_law_236 : decode cL_law 236 = .ok (.i2l, 1) := by decide +kernel
theorem dL_law_237 : decode cL_law 237 = .ok (.ldc2_w 13, 3) := by decide +kernel
theorem dL_law_240 : decode cL_law 240 = .ok (.land, 1) := by decide +kernel
theorem dL_law_241 : decode cL_law 241 = .ok (.lor, 1) := by decide +kernel
theorem dL_law_242 : decode cL_law 242 = .ok (.aload_n 0, 1) := by decide +kernel
theorem dL_law_243 : decode cL_law 243 = .ok (.iload_n 3, 1) := by decide +kernel
theorem dL_law_244 : decode cL_law 244 = .ok (.iconst 3, 1) := by decide +kernel
theorem dL_law_245 : decode cL_law 245 = .ok (.iadd, 1) := by decide +kernel
theorem dL_law_246 : decode cL_law 246 = .ok (.iaload, 1) := by decide +kernel
theorem dL_law_247 : decode cL_law 247 = .ok (.invokevirtual 19, 3) := by decide +kernel
theorem dL_law_250 : decode cL_law 250 = .ok (.if_icmp .eq 1131, 3) := by decide +kernel
theorem dL_law_253 : decode cL_law 253 = .ok (.iconst 0, 1) := by decide +kernel
theorem dL_law_254 : decode cL_law 254 = .ok (.ireturn, 1) := by decide +kernel
theorem dL_law_255 : decode cL_law 255 = .ok (.aload_n 1, 1) := by decide +kernel
theorem dL_law_256 : decode cL_law 256 = .ok (.aload_n 0, 1) := by decide +kernel
theorem dL_law_257 : decode cL_law 257 = .ok (.iload_n 3, 1) := by decide +kernel
theorem dL_law_258 : decode cL_law 258 = .ok (.iconst 1, 1) := by decide +kernel
theorem dL_law_259 : decode cL_law 259 = .ok (.iadd, 1) := by decide +kernel
theorem dL_law_260 : decode cL_law 260 = .ok (.iaload, 1) := by decide +kernel
theorem dL_law_261 : decode cL_law 261 = .ok (.invokevirtual 20, 3) := by decide +kernel
theorem dL_law_264 : decode cL_law 264 = .ok (.aload_n 2, 1) := by decide +kernel
theorem dL_law_265 : decode cL_law 265 = .ok (.aload_n 0, 1) := by decide +kernel
theorem dL_law_266 : decode cL_law 266 = .ok (.iload_n 3, 1) := by decide +kernel
theorem dL_law_267 : decode cL_law 267 = .ok (.iconst 1, 1) := by decide +kernel
theorem dL_law_268 : decode cL_law 268 = .ok (.iadd, 1) := by decide +kernel
theorem dL_law_269 : decode cL_law 269 = .ok (.iaload, 1) := by decide +kernel
theorem dL_law_270 : decode cL_law 270 = .ok (.invokevirtual 24, 3) := by decide +kernel
theorem dL_law_273 : decode cL_law 273 = .ok (.if_icmp .eq 1108, 3) := by decide +kernel
theorem dL_law_276 : decode cL_law 276 = .ok (.iconst 0, 1) := by decide +kernel
theorem dL_law_277 : decode cL_law 277 = .ok (.ireturn, 1) := by decide +kernel
theorem dL_law_278 : decode cL_law 278 = .ok (.aload_n 1, 1) := by decide +kernel
theorem dL_law_279 : decode cL_law 279 = .ok (.aload_n 0, 1) := by decide +kernel
theorem dL_law_280 : decode cL_law 280 = .ok (.iload_n 3, 1) := by decide +kernel
theorem dL_law_281 : decode cL_law 281 = .ok (.iconst 1, 1) := by decide +kernel
theorem dL_law_282 : decode cL_law 282 = .ok (.iadd, 1) := by decide +kernel
theorem dL_law_283 : decode cL_law 283 = .ok (.iaload, 1) := by decide +kernel
theorem dL_law_284 : decode cL_law 284 = .ok (.invokevirtual 25, 3) := by decide +kernel
theorem dL_law_287 : decode cL_law 287 = .ok (.aload_n 2, 1) := by decide +kernel
theorem dL_law_288 : decode cL_law 288 = .ok (.aload_n 0, 1) := by decide +kernel
theorem dL_law_289 : decode cL_law 289 = .ok (.iload_n 3, 1) := by decide +kernel
theorem dL_law_290 : decode cL_law 290 = .ok (.iconst 1, 1) := by decide +kernel
theorem dL_law_291 : decode cL_law 291 = .ok (.iadd, 1) := by decide +kernel
theorem dL_law_292 : decode cL_law 292 = .ok (.iaload, 1) := by decide +kernel
theorem dL_law_293 : decode cL_law 293 = .ok (.invokevirtual 28, 3) := by decide +kernel
theorem dL_law_296 : decode cL_law 296 = .ok (.if_icmp .eq 1085, 3) := by decide +kernel
theorem dL_law_299 : decode cL_law 299 = .ok (.iconst 0, 1) := by decide +kernel
theorem dL_law_300 : decode cL_law 300 = .ok (.ireturn, 1) := by decide +kernel
theorem dL_law_301 : decode cL_law 301 = .ok (.aload_n 1, 1) := by decide +kernel
theorem dL_law_302 : decode cL_law 302 = .ok (.aload_n 0, 1) := by decide +kernel
theorem dL_law_303 : decode cL_law 303 = .ok (.iload_n 3, 1) := by decide +kernel
theorem dL_law_304 : decode cL_law 304 = .ok (.iconst 1, 1) := by decide +kernel
theorem dL_law_305 : decode cL_law 305 = .ok (.iadd, 1) := by decide +kernel
theorem dL_law_306 : decode cL_law 306 = .ok (.iaload, 1) := by decide +kernel
theorem dL_law_307 : decode cL_law 307 = .ok (.i2l, 1) := by decide +kernel
theorem dL_law_308 : decode cL_law 308 = .ok (.bipush 32, 2) := by decide +kernel
theorem dL_law_310 : decode cL_law 310 = .ok (.lshl, 1) := by decide +kernel
theorem dL_law_311 : decode cL_law 311 = .ok (.aload_n 0, 1) := by decide +kernel
theorem dL_law_312 : decode cL_law 312 = .ok (.iload_n 3, 1) := by decide +kernel
theorem dL_law_313 : decode cL_law 313 = .ok (.iconst 2, 1) := by decide +kernel
theorem dL_law_314 : decode cL_law 314 = .ok (.iadd, 1) := by decide +kernel
theorem dL_law_315 : decode cL_law 315 = .ok (.iaload, 1) := by decide +kernel
theorem dL_law_316 : decode cL_law 316 = .ok (.i2l, 1) := by decide +kernel
theorem dL_law_317 : decode cL_law 317 = .ok (.ldc2_w 13, 3) := by decide +kernel
theorem dL_law_320 : decode cL_law 320 = .ok (.land, 1) := by decide +kernel
theorem dL_law_321 : decode cL_law 321 = .ok (.lor, 1) := by decide +kernel
theorem dL_law_322 : decode cL_law 322 = .ok (.invokevirtual 29, 3) := by decide +kernel
theorem dL_law_325 : decode cL_law 325 = .ok (.aload_n 2, 1) := by decide +kernel
theorem dL_law_326 : decode cL_law 326 = .ok (.aload_n 0, 1) := by decide +kernel
theorem dL_law_327 : decode cL_law 327 = .ok (.iload_n 3, 1) := by decide +kernel
theorem dL_law_328 : decode cL_law 328 = .ok (.iconst 1, 1) := by decide +kernel
theorem dL_law_329 : decode cL_law 329 = .ok (.iadd, 1) := by decide +kernel
theorem dL_law_330 : decode cL_law 330 = .ok (.iaload, 1) := by decide +kernel
theorem dL_law_331 : decode cL_law 331 = .ok (.i2l, 1) := by decide +kernel
theorem dL_law_332 : decode cL_law 332 = .ok (.bipush 32, 2) := by decide +kernel
theorem dL_law_334 : decode cL_law 334 = .ok (.lshl, 1) := by decide +kernel
theorem dL_law_335 : decode cL_law 335 = .ok (.aload_n 0, 1) := by decide +kernel
theorem dL_law_336 : decode cL_law 336 = .ok (.iload_n 3, 1) := by decide +kernel
theorem dL_law_337 : decode cL_law 337 = .ok (.iconst 2, 1) := by decide +kernel
theorem dL_law_338 : decode cL_law 338 = .ok (.iadd, 1) := by decide +kernel
theorem dL_law_339 : decode cL_law 339 = .ok (.iaload, 1) := by decide +kernel
theorem dL_law_340 : decode cL_law 340 = .ok (.i2l, 1) := by decide +kernel
theorem dL_law_341 : decode cL_law 341 = .ok (.ldc2_w 13, 3) := by decide +kernel
theorem dL_law_344 : decode cL_law 344 = .ok (.land, 1) := by decide +kernel
theorem dL_law_345 : decode cL_law 345 = .ok (.lor, 1) := by decide +kernel
theorem dL_law_346 : decode cL_law 346 = .ok (.invokevirtual 33, 3) := by decide +kernel
theorem dL_law_349 : decode cL_law 349 = .ok (.if_icmp .eq 1032, 3) := by decide +kernel
theorem dL_law_352 : decode cL_law 352 = .ok (.iconst 0, 1) := by decide +kernel
theorem dL_law_353 : decode cL_law 353 = .ok (.ireturn, 1) := by decide +kernel
theorem dL_law_354 : decode cL_law 354 = .ok (.aload_n 1, 1) := by decide +kernel
theorem dL_law_355 : decode cL_law 355 = .ok (.aload_n 0, 1) := by decide +kernel
theorem dL_law_356 : decode cL_law 356 = .ok (.iload_n 3, 1) := by decide +kernel
theorem dL_law_357 : decode cL_law 357 = .ok (.iconst 1, 1) := by decide +kernel
theorem dL_law_358 : decode cL_law 358 = .ok (.iadd, 1) := by decide +kernel
theorem dL_law_359 : decode cL_law 359 = .ok (.iaload, 1) := by decide +kernel
theorem dL_law_360 : decode cL_law 360 = .ok (.i2l, 1) := by decide +kernel
theorem dL_law_361 : decode cL_law 361 = .ok (.bipush 32, 2) := by decide +kernel
theorem dL_law_363 : decode cL_law 363 = .ok (.lshl, 1) := by decide +kernel
theorem dL_law_364 : decode cL_law 364 = .ok (.aload_n 0, 1) := by decide +kernel
theorem dL_law_365 : decode cL_law 365 = .ok (.iload_n 3, 1) := by decide +kernel
theorem dL_law_366 : decode cL_law 366 = .ok (.iconst 2, 1) := by decide +kernel
theorem dL_law_367 : decode cL_law 367 = .ok (.iadd, 1) := by decide +kernel
theorem dL_law_368 : decode cL_law 368 = .ok (.iaload, 1) := by decide +kernel
theorem dL_law_369 : decode cL_law 369 = .ok (.i2l, 1) := by decide +kernel
theorem dL_law_370 : decode cL_law 370 = .ok (.ldc2_w 13, 3) := by decide +kernel
theorem dL_law_373 : decode cL_law 373 = .ok (.land, 1) := by decide +kernel
theorem dL_law_374 : decode cL_law 374 = .ok (.lor, 1) := by decide +kernel
theorem dL_law_375 : decode cL_law 375 = .ok (.invokevirtual 34, 3) := by decide +kernel
theorem dL_law_378 : decode cL_law 378 = .ok (.aload_n 2, 1) := by decide +kernel
theorem dL_law_379 : decode cL_law 379 = .ok (.aload_n 0, 1) := by decide +kernel
theorem dL_law_380 : decode cL_law 380 = .ok (.iload_n 3, 1) := by decide +kernel
theorem dL_law_381 : decode cL_law 381 = .ok (.iconst 1, 1) := by decide +kernel
theorem dL_law_382 : decode cL_law 382 = .ok (.iadd, 1) := by decide +kernel
theorem dL_law_383 : decode cL_law 383 = .ok (.iaload, 1) := by decide +kernel
theorem dL_law_384 : decode cL_law 384 = .ok (.i2l, 1) := by decide +kernel
theorem dL_law_385 : decode cL_law 385 = .ok (.bipush 32, 2) := by decide +kernel
theorem dL_law_387 : decode cL_law 387 = .ok (.lshl, 1) := by decide +kernel
theorem dL_law_388 : decode cL_law 388 = .ok (.aload_n 0, 1) := by decide +kernel
theorem dL_law_389 : decode cL_law 389 = .ok (.iload_n 3, 1) := by decide +kernel
theorem dL_law_390 : decode cL_law 390 = .ok (.iconst 2, 1) := by decide +kernel
theorem dL_law_391 : decode cL_law 391 = .ok (.iadd, 1) := by decide +kernel
theorem dL_law_392 : decode cL_law 392 = .ok (.iaload, 1) := by decide +kernel
theorem dL_law_393 : decode cL_law 393 = .ok (.i2l, 1) := by decide +kernel
theorem dL_law_394 : decode cL_law 394 = .ok (.ldc2_w 13, 3) := by decide +kernel
theorem dL_law_397 : decode cL_law 397 = .ok (.land, 1) := by decide +kernel
theorem dL_law_398 : decode cL_law 398 = .ok (.lor, 1) := by decide +kernel
theorem dL_law_399 : decode cL_law 399 = .ok (.invokevirtual 37, 3) := by decide +kernel
theorem dL_law_402 : decode cL_law 402 = .ok (.if_icmp .eq 979, 3) := by decide +kernel
theorem dL_law_405 : decode cL_law 405 = .ok (.iconst 0, 1) := by decide +kernel
theorem dL_law_406 : decode cL_law 406 = .ok (.ireturn, 1) := by decide +kernel
theorem dL_law_407 : decode cL_law 407 = .ok (.aload_n 1, 1) := by decide +kernel
theorem dL_law_408 : decode cL_law 408 = .ok (.aload_n 0, 1) := by decide +kernel
theorem dL_law_409 : decode cL_law 409 = .ok (.iload_n 3, 1) := by decide +kernel
theorem dL_law_410 : decode cL_law 410 = .ok (.iconst 1, 1) := by decide +kernel
theorem dL_law_411 : decode cL_law 411 = .ok (.iadd, 1) := by decide +kernel
theorem dL_law_412 : decode cL_law 412 = .ok (.iaload, 1) := by decide +kernel
theorem dL_law_413 : decode cL_law 413 = .ok (.i2l, 1) := by decide +kernel
theorem dL_law_414 : decode cL_law 414 = .ok (.bipush 32, 2) := by decide +kernel
theorem dL_law_416 : decode cL_law 416 = .ok (.lshl, 1) := by decide +kernel
theorem dL_law_417 : decode cL_law 417 = .ok (.aload_n 0, 1) := by decide +kernel
theorem dL_law_418 : decode cL_law 418 = .ok (.iload_n 3, 1) := by decide +kernel
theorem dL_law_419 : decode cL_law 419 = .ok (.iconst 2, 1) := by decide +kernel
theorem dL_law_420 : decode cL_law 420 = .ok (.iadd, 1) := by decide +kernel
theorem dL_law_421 : decode cL_law 421 = .ok (.iaload, 1) := by decide +kernel
theorem dL_law_422 : decode cL_law 422 = .ok (.i2l, 1) := by decide +kernel
theorem dL_law_423 : decode cL_law 423 = .ok (.ldc2_w 13, 3) := by decide +kernel
theorem dL_law_426 : decode cL_law 426 = .ok (.land, 1) := by decide +kernel
theorem dL_law_427 : decode cL_law 427 = .ok (.lor, 1) := by decide +kernel
theorem dL_law_428 : decode cL_law 428 = .ok (.aload_n 0, 1) := by decide +kernel
theorem dL_law_429 : decode cL_law 429 = .ok (.iload_n 3, 1) := by decide +kernel
theorem dL_law_430 : decode cL_law 430 = .ok (.iconst 3, 1) := by decide +kernel
theorem dL_law_431 : decode cL_law 431 = .ok (.iadd, 1) := by decide +kernel
theorem dL_law_432 : decode cL_law 432 = .ok (.iaload, 1) := by decide +kernel
theorem dL_law_433 : decode cL_law 433 = .ok (.invokevirtual 38, 3) := by decide +kernel
theorem dL_law_436 : decode cL_law 436 = .ok (.aload_n 2, 1) := by decide +kernel
theorem dL_law_437 : decode cL_law 437 = .ok (.aload_n 0, 1) := by decide +kernel
theorem dL_law_438 : decode cL_law 438 = .ok (.iload_n 3, 1) := by decide +kernel
theorem dL_law_439 : decode cL_law 439 = .ok (.iconst 1, 1) := by decide +kernel
theorem dL_law_440 : decode cL_law 440 = .ok (.iadd, 1) := by decide +kernel
theorem dL_law_441 : decode cL_law 441 = .ok (.iaload, 1) := by decide +kernel
theorem dL_law_442 : decode cL_law 442 = .ok (.i2l, 1) := by decide +kernel
theorem dL_law_443 : decode cL_law 443 = .ok (.bipush 32, 2) := by decide +kernel
theorem dL_law_445 : decode cL_law 445 = .ok (.lshl, 1) := by decide +kernel
theorem dL_law_446 : decode cL_law 446 = .ok (.aload_n 0, 1) := by decide +kernel
theorem dL_law_447 : decode cL_law 447 = .ok (.iload_n 3, 1) := by decide +kernel
theorem dL_law_448 : decode cL_law 448 = .ok (.iconst 2, 1) := by decide +kernel
theorem dL_law_449 : decode cL_law 449 = .ok (.iadd, 1) := by decide +kernel
theorem dL_law_450 : decode cL_law 450 = .ok (.iaload, 1) := by decide +kernel
theorem dL_law_451 : decode cL_law 451 = .ok (.i2l, 1) := by decide +kernel
theorem dL_law_452 : decode cL_law 452 = .ok (.ldc2_w 13, 3) := by decide +kernel
theorem dL_law_455 : decode cL_law 455 = .ok (.land, 1) := by decide +kernel
theorem dL_law_456 : decode cL_law 456 = .ok (.lor, 1) := by decide +kernel
theorem dL_law_457 : decode cL_law 457 = .ok (.aload_n 0, 1) := by decide +kernel
theorem dL_law_458 : decode cL_law 458 = .ok (.iload_n 3, 1) := by decide +kernel
theorem dL_law_459 : decode cL_law 459 = .ok (.iconst 3, 1) := by decide +kernel
theorem dL_law_460 : decode cL_law 460 = .ok (.iadd, 1) := by decide +kernel
theorem dL_law_461 : decode cL_law 461 = .ok (.iaload, 1) := by decide +kernel
theorem dL_law_462 : decode cL_law 462 = .ok (.invokevirtual 41, 3) := by decide +kernel
theorem dL_law_465 : decode cL_law 465 = .ok (.if_icmp .eq 916, 3) := by decide +kernel
theorem dL_law_468 : decode cL_law 468 = .ok (.iconst 0, 1) := by decide +kernel
theorem dL_law_469 : decode cL_law 469 = .ok (.ireturn, 1) := by decide +kernel
theorem dL_law_470 : decode cL_law 470 = .ok (.aload_n 1, 1) := by decide +kernel
theorem dL_law_471 : decode cL_law 471 = .ok (.aload_n 0, 1) := by decide +kernel
theorem dL_law_472 : decode cL_law 472 = .ok (.iload_n 3, 1) := by decide +kernel
theorem dL_law_473 : decode cL_law 473 = .ok (.iconst 1, 1) := by decide +kernel
theorem dL_law_474 : decode cL_law 474 = .ok (.iadd, 1) := by decide +kernel
theorem dL_law_475 : decode cL_law 475 = .ok (.iaload, 1) := by decide +kernel
theorem dL_law_476 : decode cL_law 476 = .ok (.i2l, 1) := by decide +kernel
theorem dL_law_477 : decode cL_law 477 = .ok (.bipush 32, 2) := by decide +kernel
theorem dL_law_479 : decode cL_law 479 = .ok (.lshl, 1) := by decide +kernel
theorem dL_law_480 : decode cL_law 480 = .ok (.aload_n 0, 1) := by decide +kernel
theorem dL_law_481 : decode cL_law 481 = .ok (.iload_n 3, 1) := by decide +kernel
theorem dL_law_482 : decode cL_law 482 = .ok (.iconst 2, 1) := by decide +kernel
theorem dL_law_483 : decode cL_law 483 = .ok (.iadd, 1) := by decide +kernel
theorem dL_law_484 : decode cL_law 484 = .ok (.iaload, 1) := by decide +kernel
theorem dL_law_485 : decode cL_law 485 = .ok (.i2l, 1) := by decide +kernel
theorem dL_law_486 : decode cL_law 486 = .ok (.ldc2_w 13, 3) := by decide +kernel
theorem dL_law_489 : decode cL_law 489 = .ok (.land, 1) := by decide +kernel
theorem dL_law_490 : decode cL_law 490 = .ok (.lor, 1) := by decide +kernel
theorem dL_law_491 : decode cL_law 491 = .ok (.invokevirtual 42, 3) := by decide +kernel
theorem dL_law_494 : decode cL_law 494 = .ok (.aload_n 2, 1) := by decide +kernel
theorem dL_law_495 : decode cL_law 495 = .ok (.aload_n 0, 1) := by decide +kernel
theorem dL_law_496 : decode cL_law 496 = .ok (.iload_n 3, 1) := by decide +kernel
theorem dL_law_497 : decode cL_law 497 = .ok (.iconst 1, 1) := by decide +kernel
theorem dL_law_498 : decode cL_law 498 = .ok (.iadd, 1) := by decide +kernel
theorem dL_law_499 : decode cL_law 499 = .ok (.iaload, 1) := by decide +kernel
theorem dL_law_500 : decode cL_law 500 = .ok (.i2l, 1) := by decide +kernel
theorem dL_law_501 : decode cL_law 501 = .ok (.bipush 32, 2) := by decide +kernel
theorem dL_law_503 : decode cL_law 503 = .ok (.lshl, 1) := by decide +kernel
theorem dL_law_504 : decode cL_law 504 = .ok (.aload_n 0, 1) := by decide +kernel
theorem dL_law_505 : decode cL_law 505 = .ok (.iload_n 3, 1) := by decide +kernel
theorem dL_law_506 : decode cL_law 506 = .ok (.iconst 2, 1) := by decide +kernel
theorem dL_law_507 : decode cL_law 507 = .ok (.iadd, 1) := by decide +kernel
theorem dL_law_508 : decode cL_law 508 = .ok (.iaload, 1) := by decide +kernel
theorem dL_law_509 : decode cL_law 509 = .ok (.i2l, 1) := by decide +kernel
theorem dL_law_510 : decode cL_law 510 = .ok (.ldc2_w 13, 3) := by decide +kernel
theorem dL_law_513 : decode cL_law 513 = .ok (.land, 1) := by decide +kernel
theorem dL_law_514 : decode cL_law 514 = .ok (.lor, 1) := by decide +kernel
theorem dL_law_515 : decode cL_law 515 = .ok (.invokevirtual 45, 3) := by decide +kernel
theorem dL_law_518 : decode cL_law 518 = .ok (.if_icmp .eq 863, 3) := by decide +kernel
theorem dL_law_521 : decode cL_law 521 = .ok (.iconst 0, 1) := by decide +kernel
theorem dL_law_522 : decode cL_law 522 = .ok (.ireturn, 1) := by decide +kernel
theorem dL_law_523 : decode cL_law 523 = .ok (.aload_n 1, 1) := by decide +kernel
theorem dL_law_524 : decode cL_law 524 = .ok (.aload_n 0, 1) := by decide +kernel
theorem dL_law_525 : decode cL_law 525 = .ok (.iload_n 3, 1) := by decide +kernel
theorem dL_law_526 : decode cL_law 526 = .ok (.iconst 1, 1) := by decide +kernel
theorem dL_law_527 : decode cL_law 527 = .ok (.iadd, 1) := by decide +kernel
theorem dL_law_528 : decode cL_law 528 = .ok (.iaload, 1) := by decide +kernel
theorem dL_law_529 : decode cL_law 529 = .ok (.i2l, 1) := by decide +kernel
theorem dL_law_530 : decode cL_law 530 = .ok (.bipush 32, 2) := by decide +kernel
theorem dL_law_532 : decode cL_law 532 = .ok (.lshl, 1) := by decide +kernel
theorem dL_law_533 : decode cL_law 533 = .ok (.aload_n 0, 1) := by decide +kernel
theorem dL_law_534 : decode cL_law 534 = .ok (.iload_n 3, 1) := by decide +kernel
theorem dL_law_535 : decode cL_law 535 = .ok (.iconst 2, 1) := by decide +kernel
theorem dL_law_536 : decode cL_law 536 = .ok (.iadd, 1) := by decide +kernel
theorem dL_law_537 : decode cL_law 537 = .ok (.iaload, 1) := by decide +kernel
theorem dL_law_538 : decode cL_law 538 = .ok (.i2l, 1) := by decide +kernel
theorem dL_law_539 : decode cL_law 539 = .ok (.ldc2_w 13, 3) := by decide +kernel
theorem dL_law_542 : decode cL_law 542 = .ok (.land, 1) := by decide +kernel
theorem dL_law_543 : decode cL_law 543 = .ok (.lor, 1) := by decide +kernel
theorem dL_law_544 : decode cL_law 544 = .ok (.aload_n 0, 1) := by decide +kernel
theorem dL_law_545 : decode cL_law 545 = .ok (.iload_n 3, 1) := by decide +kernel
theorem dL_law_546 : decode cL_law 546 = .ok (.iconst 3, 1) := by decide +kernel
theorem dL_law_547 : decode cL_law 547 = .ok (.iadd, 1) := by decide +kernel
theorem dL_law_548 : decode cL_law 548 = .ok (.iaload, 1) := by decide +kernel
theorem dL_law_549 : decode cL_law 549 = .ok (.i2l, 1) := by decide +kernel
theorem dL_law_550 : decode cL_law 550 = .ok (.bipush 32, 2) := by decide +kernel
theorem dL_law_552 : decode cL_law 552 = .ok (.lshl, 1) := by decide +kernel
theorem dL_law_553 : decode cL_law 553 = .ok (.aload_n 0, 1) := by decide +kernel
theorem dL_law_554 : decode cL_law 554 = .ok (.iload_n 3, 1) := by decide +kernel
theorem dL_law_555 : decode cL_law 555 = .ok (.iconst 4, 1) := by decide +kernel
theorem dL_law_556 : decode cL_law 556 = .ok (.iadd, 1) := by decide +kernel
theorem dL_law_557 : decode cL_law 557 = .ok (.iaload, 1) := by decide +kernel
theorem dL_law_558 : decode cL_law 558 = .ok (.i2l, 1) := by decide +kernel
theorem dL_law_559 : decode cL_law 559 = .ok (.ldc2_w 13, 3) := by decide +kernel
theorem dL_law_562 : decode cL_law 562 = .ok (.land, 1) := by decide +kernel
theorem dL_law_563 : decode cL_law 563 = .ok (.lor, 1) := by decide +kernel
theorem dL_law_564 : decode cL_law 564 = .ok (.invokevirtual 46, 3) := by decide +kernel
theorem dL_law_567 : decode cL_law 567 = .ok (.aload_n 2, 1) := by decide +kernel
theorem dL_law_568 : decode cL_law 568 = .ok (.aload_n 0, 1) := by decide +kernel
theorem dL_law_569 : decode cL_law 569 = .ok (.iload_n 3, 1) := by decide +kernel
theorem dL_law_570 : decode cL_law 570 = .ok (.iconst 1, 1) := by decide +kernel
theorem dL_law_571 : decode cL_law 571 = .ok (.iadd, 1) := by decide +kernel
theorem dL_law_572 : decode cL_law 572 = .ok (.iaload, 1) := by decide +kernel
theorem dL_law_573 : decode cL_law 573 = .ok (.i2l, 1) := by decide +kernel
theorem dL_law_574 : decode cL_law 574 = .ok (.bipush 32, 2) := by decide +kernel
theorem dL_law_576 : decode cL_law 576 = .ok (.lshl, 1) := by decide +kernel
theorem dL_law_577 : decode cL_law 577 = .ok (.aload_n 0, 1) := by decide +kernel
theorem dL_law_578 : decode cL_law 578 = .ok (.iload_n 3, 1) := by decide +kernel
theorem dL_law_579 : decode cL_law 579 = .ok (.iconst 2, 1) := by decide +kernel
theorem dL_law_580 : decode cL_law 580 = .ok (.iadd, 1) := by decide +kernel
theorem dL_law_581 : decode cL_law 581 = .ok (.iaload, 1) := by decide +kernel
theorem dL_law_582 : decode cL_law 582 = .ok (.i2l, 1) := by decide +kernel
theorem dL_law_583 : decode cL_law 583 = .ok (.ldc2_w 13, 3) := by decide +kernel
theorem dL_law_586 : decode cL_law 586 = .ok (.land, 1) := by decide +kernel
theorem dL_law_587 : decode cL_law 587 = .ok (.lor, 1) := by decide +kernel
theorem dL_law_588 : decode cL_law 588 = .ok (.aload_n 0, 1) := by decide +kernel
theorem dL_law_589 : decode cL_law 589 = .ok (.iload_n 3, 1) := by decide +kernel
theorem dL_law_590 : decode cL_law 590 = .ok (.iconst 3, 1) := by decide +kernel
theorem dL_law_591 : decode cL_law 591 = .ok (.iadd, 1) := by decide +kernel
theorem dL_law_592 : decode cL_law 592 = .ok (.iaload, 1) := by decide +kernel
theorem dL_law_593 : decode cL_law 593 = .ok (.i2l, 1) := by decide +kernel
theorem dL_law_594 : decode cL_law 594 = .ok (.bipush 32, 2) := by decide +kernel
theorem dL_law_596 : decode cL_law 596 = .ok (.lshl, 1) := by decide +kernel
theorem dL_law_597 : decode cL_law 597 = .ok (.aload_n 0, 1) := by decide +kernel
theorem dL_law_598 : decode cL_law 598 = .ok (.iload_n 3, 1) := by decide +kernel
theorem dL_law_599 : decode cL_law 599 = .ok (.iconst 4, 1) := by decide +kernel
theorem dL_law_600 : decode cL_law 600 = .ok (.iadd, 1) := by decide +kernel
theorem dL_law_601 : decode cL_law 601 = .ok (.iaload, 1) := by decide +kernel
theorem dL_law_602 : decode cL_law 602 = .ok (.i2l, 1) := by decide +kernel
theorem dL_law_603 : decode cL_law 603 = .ok (.ldc2_w 13, 3) := by decide +kernel
theorem dL_law_606 : decode cL_law 606 = .ok (.land, 1) := by decide +kernel
theorem dL_law_607 : decode cL_law 607 = .ok (.lor, 1) := by decide +kernel
theorem dL_law_608 : decode cL_law 608 = .ok (.invokevirtual 50, 3) := by decide +kernel
theorem dL_law_611 : decode cL_law 611 = .ok (.if_icmp .eq 770, 3) := by decide +kernel
theorem dL_law_614 : decode cL_law 614 = .ok (.iconst 0, 1) := by decide +kernel
theorem dL_law_615 : decode cL_law 615 = .ok (.ireturn, 1) := by decide +kernel
theorem dL_law_616 : decode cL_law 616 = .ok (.aload_n 1, 1) := by decide +kernel
theorem dL_law_617 : decode cL_law 617 = .ok (.aload_n 0, 1) := by decide +kernel
theorem dL_law_618 : decode cL_law 618 = .ok (.iload_n 3, 1) := by decide +kernel
theorem dL_law_619 : decode cL_law 619 = .ok (.iconst 1, 1) := by decide +kernel
theorem dL_law_620 : decode cL_law 620 = .ok (.iadd, 1) := by decide +kernel
theorem dL_law_621 : decode cL_law 621 = .ok (.iaload, 1) := by decide +kernel
theorem dL_law_622 : decode cL_law 622 = .ok (.i2l, 1) := by decide +kernel
theorem dL_law_623 : decode cL_law 623 = .ok (.bipush 32, 2) := by decide +kernel
theorem dL_law_625 : decode cL_law 625 = .ok (.lshl, 1) := by decide +kernel
theorem dL_law_626 : decode cL_law 626 = .ok (.aload_n 0, 1) := by decide +kernel
theorem dL_law_627 : decode cL_law 627 = .ok (.iload_n 3, 1) := by decide +kernel
theorem dL_law_628 : decode cL_law 628 = .ok (.iconst 2, 1) := by decide +kernel
theorem dL_law_629 : decode cL_law 629 = .ok (.iadd, 1) := by decide +kernel
theorem dL_law_630 : decode cL_law 630 = .ok (.iaload, 1) := by decide +kernel
theorem dL_law_631 : decode cL_law 631 = .ok (.i2l, 1) := by decide +kernel
theorem dL_law_632 : decode cL_law 632 = .ok (.ldc2_w 13, 3) := by decide +kernel
theorem dL_law_635 : decode cL_law 635 = .ok (.land, 1) := by decide +kernel
theorem dL_law_636 : decode cL_law 636 = .ok (.lor, 1) := by decide +kernel
theorem dL_law_637 : decode cL_law 637 = .ok (.invokevirtual 51, 3) := by decide +kernel
theorem dL_law_640 : decode cL_law 640 = .ok (.aload_n 2, 1) := by decide +kernel
theorem dL_law_641 : decode cL_law 641 = .ok (.aload_n 0, 1) := by decide +kernel
theorem dL_law_642 : decode cL_law 642 = .ok (.iload_n 3, 1) := by decide +kernel
theorem dL_law_643 : decode cL_law 643 = .ok (.iconst 1, 1) := by decide +kernel
theorem dL_law_644 : decode cL_law 644 = .ok (.iadd, 1) := by decide +kernel
theorem dL_law_645 : decode cL_law 645 = .ok (.iaload, 1) := by decide +kernel
theorem dL_law_646 : decode cL_law 646 = .ok (.i2l, 1) := by decide +kernel
theorem dL_law_647 : decode cL_law 647 = .ok (.bipush 32, 2) := by decide +kernel
theorem dL_law_649 : decode cL_law 649 = .ok (.lshl, 1) := by decide +kernel
theorem dL_law_650 : decode cL_law 650 = .ok (.aload_n 0, 1) := by decide +kernel
theorem dL_law_651 : decode cL_law 651 = .ok (.iload_n 3, 1) := by decide +kernel
theorem dL_law_652 : decode cL_law 652 = .ok (.iconst 2, 1) := by decide +kernel
theorem dL_law_653 : decode cL_law 653 = .ok (.iadd, 1) := by decide +kernel
theorem dL_law_654 : decode cL_law 654 = .ok (.iaload, 1) := by decide +kernel
theorem dL_law_655 : decode cL_law 655 = .ok (.i2l, 1) := by decide +kernel
theorem dL_law_656 : decode cL_law 656 = .ok (.ldc2_w 13, 3) := by decide +kernel
theorem dL_law_659 : decode cL_law 659 = .ok (.land, 1) := by decide +kernel
theorem dL_law_660 : decode cL_law 660 = .ok (.lor, 1) := by decide +kernel
theorem dL_law_661 : decode cL_law 661 = .ok (.invokevirtual 54, 3) := by decide +kernel
theorem dL_law_664 : decode cL_law 664 = .ok (.if_icmp .eq 717, 3) := by decide +kernel
theorem dL_law_667 : decode cL_law 667 = .ok (.iconst 0, 1) := by decide +kernel
theorem dL_law_668 : decode cL_law 668 = .ok (.ireturn, 1) := by decide +kernel
theorem dL_law_669 : decode cL_law 669 = .ok (.aload_n 1, 1) := by decide +kernel
theorem dL_law_670 : decode cL_law 670 = .ok (.aload_n 0, 1) := by decide +kernel
theorem dL_law_671 : decode cL_law 671 = .ok (.iload_n 3, 1) := by decide +kernel
theorem dL_law_672 : decode cL_law 672 = .ok (.iconst 1, 1) := by decide +kernel
theorem dL_law_673 : decode cL_law 673 = .ok (.iadd, 1) := by decide +kernel
theorem dL_law_674 : decode cL_law 674 = .ok (.iaload, 1) := by decide +kernel
theorem dL_law_675 : decode cL_law 675 = .ok (.i2l, 1) := by decide +kernel
theorem dL_law_676 : decode cL_law 676 = .ok (.bipush 32, 2) := by decide +kernel
theorem dL_law_678 : decode cL_law 678 = .ok (.lshl, 1) := by decide +kernel
theorem dL_law_679 : decode cL_law 679 = .ok (.aload_n 0, 1) := by decide +kernel
theorem dL_law_680 : decode cL_law 680 = .ok (.iload_n 3, 1) := by decide +kernel
theorem dL_law_681 : decode cL_law 681 = .ok (.iconst 2, 1) := by decide +kernel
theorem dL_law_682 : decode cL_law 682 = .ok (.iadd, 1) := by decide +kernel
theorem dL_law_683 : decode cL_law 683 = .ok (.iaload, 1) := by decide +kernel
theorem dL_law_684 : decode cL_law 684 = .ok (.i2l, 1) := by decide +kernel
theorem dL_law_685 : decode cL_law 685 = .ok (.ldc2_w 13, 3) := by decide +kernel
theorem dL_law_688 : decode cL_law 688 = .ok (.land, 1) := by decide +kernel
theorem dL_law_689 : decode cL_law 689 = .ok (.lor, 1) := by decide +kernel
theorem dL_law_690 : decode cL_law 690 = .ok (.invokevirtual 55, 3) := by decide +kernel
theorem dL_law_693 : decode cL_law 693 = .ok (.aload_n 2, 1) := by decide +kernel
theorem dL_law_694 : decode cL_law 694 = .ok (.aload_n 0, 1) := by decide +kernel
theorem dL_law_695 : decode cL_law 695 = .ok (.iload_n 3, 1) := by decide +kernel
theorem dL_law_696 : decode cL_law 696 = .ok (.iconst 1, 1) := by decide +kernel
theorem dL_law_697 : decode cL_law 697 = .ok (.iadd, 1) := by decide +kernel
theorem dL_law_698 : decode cL_law 698 = .ok (.iaload, 1) := by decide +kernel
theorem dL_law_699 : decode cL_law 699 = .ok (.i2l, 1) := by decide +kernel
theorem dL_law_700 : decode cL_law 700 = .ok (.bipush 32, 2) := by decide +kernel
theorem dL_law_702 : decode cL_law 702 = .ok (.lshl, 1) := by decide +kernel
theorem dL_law_703 : decode cL_law 703 = .ok (.aload_n 0, 1) := by decide +kernel
theorem dL_law_704 : decode cL_law 704 = .ok (.iload_n 3, 1) := by decide +kernel
theorem dL_law_705 : decode cL_law 705 = .ok (.iconst 2, 1) := by decide +kernel
theorem dL_law_706 : decode cL_law 706 = .ok (.iadd, 1) := by decide +kernel
theorem dL_law_707 : decode cL_law 707 = .ok (.iaload, 1) := by decide +kernel
theorem dL_law_708 : decode cL_law 708 = .ok (.i2l, 1) := by decide +kernel
theorem dL_law_709 : decode cL_law 709 = .ok (.ldc2_w 13, 3) := by decide +kernel
theorem dL_law_712 : decode cL_law 712 = .ok (.land, 1) := by decide +kernel
theorem dL_law_713 : decode cL_law 713 = .ok (.lor, 1) := by decide +kernel
theorem dL_law_714 : decode cL_law 714 = .ok (.invokevirtual 58, 3) := by decide +kernel
theorem dL_law_717 : decode cL_law 717 = .ok (.if_icmp .eq 664, 3) := by decide +kernel
theorem dL_law_720 : decode cL_law 720 = .ok (.iconst 0, 1) := by decide +kernel
theorem dL_law_721 : decode cL_law 721 = .ok (.ireturn, 1) := by decide +kernel
theorem dL_law_722 : decode cL_law 722 = .ok (.aload_n 1, 1) := by decide +kernel
theorem dL_law_723 : decode cL_law 723 = .ok (.aload_n 0, 1) := by decide +kernel
theorem dL_law_724 : decode cL_law 724 = .ok (.iload_n 3, 1) := by decide +kernel
theorem dL_law_725 : decode cL_law 725 = .ok (.iconst 1, 1) := by decide +kernel
theorem dL_law_726 : decode cL_law 726 = .ok (.iadd, 1) := by decide +kernel
theorem dL_law_727 : decode cL_law 727 = .ok (.iaload, 1) := by decide +kernel
theorem dL_law_728 : decode cL_law 728 = .ok (.i2l, 1) := by decide +kernel
theorem dL_law_729 : decode cL_law 729 = .ok (.bipush 32, 2) := by decide +kernel
theorem dL_law_731 : decode cL_law 731 = .ok (.lshl, 1) := by decide +kernel
theorem dL_law_732 : decode cL_law 732 = .ok (.aload_n 0, 1) := by decide +kernel
theorem dL_law_733 : decode cL_law 733 = .ok (.iload_n 3, 1) := by decide +kernel
theorem dL_law_734 : decode cL_law 734 = .ok (.iconst 2, 1) := by decide +kernel
theorem dL_law_735 : decode cL_law 735 = .ok (.iadd, 1) := by decide +kernel
theorem dL_law_736 : decode cL_law 736 = .ok (.iaload, 1) := by decide +kernel
theorem dL_law_737 : decode cL_law 737 = .ok (.i2l, 1) := by decide +kernel
theorem dL_law_738 : decode cL_law 738 = .ok (.ldc2_w 13, 3) := by decide +kernel
theorem dL_law_741 : decode cL_law 741 = .ok (.land, 1) := by decide +kernel
theorem dL_law_742 : decode cL_law 742 = .ok (.lor, 1) := by decide +kernel
theorem dL_law_743 : decode cL_law 743 = .ok (.invokevirtual 59, 3) := by decide +kernel
theorem dL_law_746 : decode cL_law 746 = .ok (.aload_n 2, 1) := by decide +kernel
theorem dL_law_747 : decode cL_law 747 = .ok (.aload_n 0, 1) := by decide +kernel
theorem dL_law_748 : decode cL_law 748 = .ok (.iload_n 3, 1) := by decide +kernel
theorem dL_law_749 : decode cL_law 749 = .ok (.iconst 1, 1) := by decide +kernel
theorem dL_law_750 : decode cL_law 750 = .ok (.iadd, 1) := by decide +kernel
theorem dL_law_751 : decode cL_law 751 = .ok (.iaload, 1) := by decide +kernel
theorem dL_law_752 : decode cL_law 752 = .ok (.i2l, 1) := by decide +kernel
theorem dL_law_753 : decode cL_law 753 = .ok (.bipush 32, 2) := by decide +kernel
theorem dL_law_755 : decode cL_law 755 = .ok (.lshl, 1) := by decide +kernel
theorem dL_law_756 : decode cL_law 756 = .ok (.aload_n 0, 1) := by decide +kernel
theorem dL_law_757 : decode cL_law 757 = .ok (.iload_n 3, 1) := by decide +kernel
theorem dL_law_758 : decode cL_law 758 = .ok (.iconst 2, 1) := by decide +kernel
theorem dL_law_759 : decode cL_law 759 = .ok (.iadd, 1) := by decide +kernel
theorem dL_law_760 : decode cL_law 760 = .ok (.iaload, 1) := by decide +kernel
theorem dL_law_761 : decode cL_law 761 = .ok (.i2l, 1) := by decide +kernel
theorem dL_law_762 : decode cL_law 762 = .ok (.ldc2_w 13, 3) := by decide +kernel
theorem dL_law_765 : decode cL_law 765 = .ok (.land, 1) := by decide +kernel
theorem dL_law_766 : decode cL_law 766 = .ok (.lor, 1) := by decide +kernel
theorem dL_law_767 : decode cL_law 767 = .ok (.invokevirtual 62, 3) := by decide +kernel
theorem dL_law_770 : decode cL_law 770 = .ok (.if_icmp .eq 611, 3) := by decide +kernel
theorem dL_law_773 : decode cL_law 773 = .ok (.iconst 0, 1) := by decide +kernel
theorem dL_law_774 : decode cL_law 774 = .ok (.ireturn, 1) := by decide +kernel
theorem dL_law_775 : decode cL_law 775 = .ok (.aload_n 1, 1) := by decide +kernel
theorem dL_law_776 : decode cL_law 776 = .ok (.aload_n 0, 1) := by decide +kernel
theorem dL_law_777 : decode cL_law 777 = .ok (.iload_n 3, 1) := by decide +kernel
theorem dL_law_778 : decode cL_law 778 = .ok (.iconst 1, 1) := by decide +kernel
theorem dL_law_779 : decode cL_law 779 = .ok (.iadd, 1) := by decide +kernel
theorem dL_law_780 : decode cL_law 780 = .ok (.iaload, 1) := by decide +kernel
theorem dL_law_781 : decode cL_law 781 = .ok (.i2l, 1) := by decide +kernel
theorem dL_law_782 : decode cL_law 782 = .ok (.bipush 32, 2) := by decide +kernel
theorem dL_law_784 : decode cL_law 784 = .ok (.lshl, 1) := by decide +kernel
theorem dL_law_785 : decode cL_law 785 = .ok (.aload_n 0, 1) := by decide +kernel
theorem dL_law_786 : decode cL_law 786 = .ok (.iload_n 3, 1) := by decide +kernel
theorem dL_law_787 : decode cL_law 787 = .ok (.iconst 2, 1) := by decide +kernel
theorem dL_law_788 : decode cL_law 788 = .ok (.iadd, 1) := by decide +kernel
theorem dL_law_789 : decode cL_law 789 = .ok (.iaload, 1) := by decide +kernel
theorem dL_law_790 : decode cL_law 790 = .ok (.i2l, 1) := by decide +kernel
theorem dL_law_791 : decode cL_law 791 = .ok (.ldc2_w 13, 3) := by decide +kernel
theorem dL_law_794 : decode cL_law 794 = .ok (.land, 1) := by decide +kernel
theorem dL_law_795 : decode cL_law 795 = .ok (.lor, 1) := by decide +kernel
theorem dL_law_796 : decode cL_law 796 = .ok (.invokevirtual 63, 3) := by decide +kernel
theorem dL_law_799 : decode cL_law 799 = .ok (.aload_n 2, 1) := by decide +kernel
theorem dL_law_800 : decode cL_law 800 = .ok (.aload_n 0, 1) := by decide +kernel
theorem dL_law_801 : decode cL_law 801 = .ok (.iload_n 3, 1) := by decide +kernel
theorem dL_law_802 : decode cL_law 802 = .ok (.iconst 1, 1) := by decide +kernel
theorem dL_law_803 : decode cL_law 803 = .ok (.iadd, 1) := by decide +kernel
theorem dL_law_804 : decode cL_law 804 = .ok (.iaload, 1) := by decide +kernel
theorem dL_law_805 : decode cL_law 805 = .ok (.i2l, 1) := by decide +kernel
theorem dL_law_806 : decode cL_law 806 = .ok (.bipush 32, 2) := by decide +kernel
theorem dL_law_808 : decode cL_law 808 = .ok (.lshl, 1) := by decide +kernel
theorem dL_law_809 : decode cL_law 809 = .ok (.aload_n 0, 1) := by decide +kernel
theorem dL_law_810 : decode cL_law 810 = .ok (.iload_n 3, 1) := by decide +kernel
theorem dL_law_811 : decode cL_law 811 = .ok (.iconst 2, 1) := by decide +kernel
theorem dL_law_812 : decode cL_law 812 = .ok (.iadd, 1) := by decide +kernel
theorem dL_law_813 : decode cL_law 813 = .ok (.iaload, 1) := by decide +kernel
theorem dL_law_814 : decode cL_law 814 = .ok (.i2l, 1) := by decide +kernel
theorem dL_law_815 : decode cL_law 815 = .ok (.ldc2_w 13, 3) := by decide +kernel
theorem dL_law_818 : decode cL_law 818 = .ok (.land, 1) := by decide +kernel
theorem dL_law_819 : decode cL_law 819 = .ok (.lor, 1) := by decide +kernel
theorem dL_law_820 : decode cL_law 820 = .ok (.invokevirtual 66, 3) := by decide +kernel
theorem dL_law_823 : decode cL_law 823 = .ok (.if_icmp .eq 558, 3) := by decide +kernel
theorem dL_law_826 : decode cL_law 826 = .ok (.iconst 0, 1) := by decide +kernel
theorem dL_law_827 : decode cL_law 827 = .ok (.ireturn, 1) := by decide +kernel
theorem dL_law_828 : decode cL_law 828 = .ok (.aload_n 1, 1) := by decide +kernel
theorem dL_law_829 : decode cL_law 829 = .ok (.invokevirtual 67, 3) := by decide +kernel
theorem dL_law_832 : decode cL_law 832 = .ok (.aload_n 2, 1) := by decide +kernel
theorem dL_law_833 : decode cL_law 833 = .ok (.invokevirtual 71, 3) := by decide +kernel
theorem dL_law_836 : decode cL_law 836 = .ok (.lcmp, 1) := by decide +kernel
theorem dL_law_837 : decode cL_law 837 = .ok (.ifCond .eq 544, 3) := by decide +kernel
theorem dL_law_840 : decode cL_law 840 = .ok (.iconst 0, 1) := by decide +kernel
theorem dL_law_841 : decode cL_law 841 = .ok (.ireturn, 1) := by decide +kernel
theorem dL_law_842 : decode cL_law 842 = .ok (.aload_n 1, 1) := by decide +kernel
theorem dL_law_843 : decode cL_law 843 = .ok (.invokevirtual 72, 3) := by decide +kernel
theorem dL_law_846 : decode cL_law 846 = .ok (.aload_n 2, 1) := by decide +kernel
theorem dL_law_847 : decode cL_law 847 = .ok (.invokevirtual 76, 3) := by decide +kernel
theorem dL_law_850 : decode cL_law 850 = .ok (.if_icmp .eq 531, 3) := by decide +kernel
theorem dL_law_853 : decode cL_law 853 = .ok (.iconst 0, 1) := by decide +kernel
theorem dL_law_854 : decode cL_law 854 = .ok (.ireturn, 1) := by decide +kernel
theorem dL_law_855 : decode cL_law 855 = .ok (.aload_n 1, 1) := by decide +kernel
theorem dL_law_856 : decode cL_law 856 = .ok (.invokevirtual 77, 3) := by decide +kernel
theorem dL_law_859 : decode cL_law 859 = .ok (.aload_n 2, 1) := by decide +kernel
theorem dL_law_860 : decode cL_law 860 = .ok (.invokevirtual 80, 3) := by decide +kernel
theorem dL_law_863 : decode cL_law 863 = .ok (.if_icmp .eq 518, 3) := by decide +kernel
theorem dL_law_866 : decode cL_law 866 = .ok (.iconst 0, 1) := by decide +kernel
theorem dL_law_867 : decode cL_law 867 = .ok (.ireturn, 1) := by decide +kernel
theorem dL_law_868 : decode cL_law 868 = .ok (.aload_n 1, 1) := by decide +kernel
theorem dL_law_869 : decode cL_law 869 = .ok (.invokevirtual 81, 3) := by decide +kernel
theorem dL_law_872 : decode cL_law 872 = .ok (.aload_n 2, 1) := by decide +kernel
theorem dL_law_873 : decode cL_law 873 = .ok (.invokevirtual 84, 3) := by decide +kernel
theorem dL_law_876 : decode cL_law 876 = .ok (.if_icmp .eq 505, 3) := by decide +kernel
theorem dL_law_879 : decode cL_law 879 = .ok (.iconst 0, 1) := by decide +kernel
theorem dL_law_880 : decode cL_law 880 = .ok (.ireturn, 1) := by decide +kernel
theorem dL_law_881 : decode cL_law 881 = .ok (.aload_n 1, 1) := by decide +kernel
theorem dL_law_882 : decode cL_law 882 = .ok (.invokevirtual 85, 3) := by decide +kernel
theorem dL_law_885 : decode cL_law 885 = .ok (.aload_n 2, 1) := by decide +kernel
theorem dL_law_886 : decode cL_law 886 = .ok (.invokevirtual 88, 3) := by decide +kernel
theorem dL_law_889 : decode cL_law 889 = .ok (.if_icmp .eq 492, 3) := by decide +kernel
theorem dL_law_892 : decode cL_law 892 = .ok (.iconst 0, 1) := by decide +kernel
theorem dL_law_893 : decode cL_law 893 = .ok (.ireturn, 1) := by decide +kernel
theorem dL_law_894 : decode cL_law 894 = .ok (.aload_n 1, 1) := by decide +kernel
theorem dL_law_895 : decode cL_law 895 = .ok (.invokevirtual 89, 3) := by decide +kernel
theorem dL_law_898 : decode cL_law 898 = .ok (.aload_n 2, 1) := by decide +kernel
theorem dL_law_899 : decode cL_law 899 = .ok (.invokevirtual 92, 3) := by decide +kernel
theorem dL_law_902 : decode cL_law 902 = .ok (.if_icmp .eq 479, 3) := by decide +kernel
theorem dL_law_905 : decode cL_law 905 = .ok (.iconst 0, 1) := by decide +kernel
theorem dL_law_906 : decode cL_law 906 = .ok (.ireturn, 1) := by decide +kernel
theorem dL_law_907 : decode cL_law 907 = .ok (.aload_n 1, 1) := by decide +kernel
theorem dL_law_908 : decode cL_law 908 = .ok (.invokevirtual 93, 3) := by decide +kernel
theorem dL_law_911 : decode cL_law 911 = .ok (.aload_n 2, 1) := by decide +kernel
theorem dL_law_912 : decode cL_law 912 = .ok (.invokevirtual 96, 3) := by decide +kernel
theorem dL_law_915 : decode cL_law 915 = .ok (.if_icmp .eq 466, 3) := by decide +kernel
theorem dL_law_918 : decode cL_law 918 = .ok (.iconst 0, 1) := by decide +kernel
theorem dL_law_919 : decode cL_law 919 = .ok (.ireturn, 1) := by decide +kernel
theorem dL_law_920 : decode cL_law 920 = .ok (.aload_n 1, 1) := by decide +kernel
theorem dL_law_921 : decode cL_law 921 = .ok (.aload_n 0, 1) := by decide +kernel
theorem dL_law_922 : decode cL_law 922 = .ok (.iload_n 3, 1) := by decide +kernel
theorem dL_law_923 : decode cL_law 923 = .ok (.iconst 1, 1) := by decide +kernel
theorem dL_law_924 : decode cL_law 924 = .ok (.iadd, 1) := by decide +kernel
theorem dL_law_925 : decode cL_law 925 = .ok (.iaload, 1) := by decide +kernel
theorem dL_law_926 : decode cL_law 926 = .ok (.aload_n 0, 1) := by decide +kernel
theorem dL_law_927 : decode cL_law 927 = .ok (.iload_n 3, 1) := by decide +kernel
theorem dL_law_928 : decode cL_law 928 = .ok (.iconst 2, 1) := by decide +kernel
theorem dL_law_929 : decode cL_law 929 = .ok (.iadd, 1) := by decide +kernel
theorem dL_law_930 : decode cL_law 930 = .ok (.iaload, 1) := by decide +kernel
theorem dL_law_931 : decode cL_law 931 = .ok (.invokevirtual 97, 3) := by decide +kernel
theorem dL_law_934 : decode cL_law 934 = .ok (.aload_n 2, 1) := by decide +kernel
theorem dL_law_935 : decode cL_law 935 = .ok (.aload_n 0, 1) := by decide +kernel
theorem dL_law_936 : decode cL_law 936 = .ok (.iload_n 3, 1) := by decide +kernel
theorem dL_law_937 : decode cL_law 937 = .ok (.iconst 1, 1) := by decide +kernel
theorem dL_law_938 : decode cL_law 938 = .ok (.iadd, 1) := by decide +kernel
theorem dL_law_939 : decode cL_law 939 = .ok (.iaload, 1) := by decide +kernel
theorem dL_law_940 : decode cL_law 940 = .ok (.aload_n 0, 1) := by decide +kernel
theorem dL_law_941 : decode cL_law 941 = .ok (.iload_n 3, 1) := by decide +kernel
theorem dL_law_942 : decode cL_law 942 = .ok (.iconst 2, 1) := by decide +kernel
theorem dL_law_943 : decode cL_law 943 = .ok (.iadd, 1) := by decide +kernel
theorem dL_law_944 : decode cL_law 944 = .ok (.iaload, 1) := by decide +kernel
theorem dL_law_945 : decode cL_law 945 = .ok (.invokevirtual 101, 3) := by decide +kernel
theorem dL_law_948 : decode cL_law 948 = .ok (.if_icmp .eq 433, 3) := by decide +kernel
theorem dL_law_951 : decode cL_law 951 = .ok (.iconst 0, 1) := by decide +kernel
theorem dL_law_952 : decode cL_law 952 = .ok (.ireturn, 1) := by decide +kernel
theorem dL_law_953 : decode cL_law 953 = .ok (.aload_n 1, 1) := by decide +kernel
theorem dL_law_954 : decode cL_law 954 = .ok (.aload_n 0, 1) := by decide +kernel
theorem dL_law_955 : decode cL_law 955 = .ok (.iload_n 3, 1) := by decide +kernel
theorem dL_law_956 : decode cL_law 956 = .ok (.iconst 1, 1) := by decide +kernel
theorem dL_law_957 : decode cL_law 957 = .ok (.iadd, 1) := by decide +kernel
theorem dL_law_958 : decode cL_law 958 = .ok (.iaload, 1) := by decide +kernel
theorem dL_law_959 : decode cL_law 959 = .ok (.aload_n 0, 1) := by decide +kernel
theorem dL_law_960 : decode cL_law 960 = .ok (.iload_n 3, 1) := by decide +kernel
theorem dL_law_961 : decode cL_law 961 = .ok (.iconst 2, 1) := by decide +kernel
theorem dL_law_962 : decode cL_law 962 = .ok (.iadd, 1) := by decide +kernel
theorem dL_law_963 : decode cL_law 963 = .ok (.iaload, 1) := by decide +kernel
theorem dL_law_964 : decode cL_law 964 = .ok (.invokevirtual 102, 3) := by decide +kernel
theorem dL_law_967 : decode cL_law 967 = .ok (.aload_n 2, 1) := by decide +kernel
theorem dL_law_968 : decode cL_law 968 = .ok (.aload_n 0, 1) := by decide +kernel
theorem dL_law_969 : decode cL_law 969 = .ok (.iload_n 3, 1) := by decide +kernel
theorem dL_law_970 : decode cL_law 970 = .ok (.iconst 1, 1) := by decide +kernel
theorem dL_law_971 : decode cL_law 971 = .ok (.iadd, 1) := by decide +kernel
theorem dL_law_972 : decode cL_law 972 = .ok (.iaload, 1) := by decide +kernel
theorem dL_law_973 : decode cL_law 973 = .ok (.aload_n 0, 1) := by decide +kernel
theorem dL_law_974 : decode cL_law 974 = .ok (.iload_n 3, 1) := by decide +kernel
theorem dL_law_975 : decode cL_law 975 = .ok (.iconst 2, 1) := by decide +kernel
theorem dL_law_976 : decode cL_law 976 = .ok (.iadd, 1) := by decide +kernel
theorem dL_law_977 : decode cL_law 977 = .ok (.iaload, 1) := by decide +kernel
theorem dL_law_978 : decode cL_law 978 = .ok (.invokevirtual 105, 3) := by decide +kernel
theorem dL_law_981 : decode cL_law 981 = .ok (.if_icmp .eq 400, 3) := by decide +kernel
theorem dL_law_984 : decode cL_law 984 = .ok (.iconst 0, 1) := by decide +kernel
theorem dL_law_985 : decode cL_law 985 = .ok (.ireturn, 1) := by decide +kernel
theorem dL_law_986 : decode cL_law 986 = .ok (.aload_n 1, 1) := by decide +kernel
theorem dL_law_987 : decode cL_law 987 = .ok (.aload_n 0, 1) := by decide +kernel
theorem dL_law_988 : decode cL_law 988 = .ok (.iload_n 3, 1) := by decide +kernel
theorem dL_law_989 : decode cL_law 989 = .ok (.iconst 1, 1) := by decide +kernel
theorem dL_law_990 : decode cL_law 990 = .ok (.iadd, 1) := by decide +kernel
theorem dL_law_991 : decode cL_law 991 = .ok (.iaload, 1) := by decide +kernel
theorem dL_law_992 : decode cL_law 992 = .ok (.aload_n 0, 1) := by decide +kernel
theorem dL_law_993 : decode cL_law 993 = .ok (.iload_n 3, 1) := by decide +kernel
theorem dL_law_994 : decode cL_law 994 = .ok (.iconst 2, 1) := by decide +kernel
theorem dL_law_995 : decode cL_law 995 = .ok (.iadd, 1) := by decide +kernel
theorem dL_law_996 : decode cL_law 996 = .ok (.iaload, 1) := by decide +kernel
theorem dL_law_997 : decode cL_law 997 = .ok (.aload_n 0, 1) := by decide +kernel
theorem dL_law_998 : decode cL_law 998 = .ok (.iload_n 3, 1) := by decide +kernel
theorem dL_law_999 : decode cL_law 999 = .ok (.iconst 3, 1) := by decide +kernel
theorem dL_law_1000 : decode cL_law 1000 = .ok (.iadd, 1) := by decide +kernel
theorem dL_law_1001 : decode cL_law 1001 = .ok (.iaload, 1) := by decide +kernel
theorem dL_law_1002 : decode cL_law 1002 = .ok (.invokevirtual 106, 3) := by decide +kernel
theorem dL_law_1005 : decode cL_law 1005 = .ok (.aload_n 2, 1) := by decide +kernel
theorem dL_law_1006 : decode cL_law 1006 = .ok (.aload_n 0, 1) := by decide +kernel
theorem dL_law_1007 : decode cL_law 1007 = .ok (.iload_n 3, 1) := by decide +kernel
theorem dL_law_1008 : decode cL_law 1008 = .ok (.iconst 1, 1) := by decide +kernel
theorem dL_law_1009 : decode cL_law 1009 = .ok (.iadd, 1) := by decide +kernel
theorem dL_law_1010 : decode cL_law 1010 = .ok (.iaload, 1) := by decide +kernel
theorem dL_law_1011 : decode cL_law 1011 = .ok (.aload_n 0, 1) := by decide +kernel
theorem dL_law_1012 : decode cL_law 1012 = .ok (.iload_n 3, 1) := by decide +kernel
theorem dL_law_1013 : decode cL_law 1013 = .ok (.iconst 2, 1) := by decide +kernel
theorem dL_law_1014 : decode cL_law 1014 = .ok (.iadd, 1) := by decide +kernel
theorem dL_law_1015 : decode cL_law 1015 = .ok (.iaload, 1) := by decide +kernel
theorem dL_law_1016 : decode cL_law 1016 = .ok (.aload_n 0, 1) := by decide +kernel
theorem dL_law_1017 : decode cL_law 1017 = .ok (.iload_n 3, 1) := by decide +kernel
theorem dL_law_1018 : decode cL_law 1018 = .ok (.iconst 3, 1) := by decide +kernel
theorem dL_law_1019 : decode cL_law 1019 = .ok (.iadd, 1) := by decide +kernel
theorem dL_law_1020 : decode cL_law 1020 = .ok (.iaload, 1) := by decide +kernel
theorem dL_law_1021 : decode cL_law 1021 = .ok (.invokevirtual 110, 3) := by decide +kernel
theorem dL_law_1024 : decode cL_law 1024 = .ok (.if_icmp .eq 357, 3) := by decide +kernel
theorem dL_law_1027 : decode cL_law 1027 = .ok (.iconst 0, 1) := by decide +kernel
theorem dL_law_1028 : decode cL_law 1028 = .ok (.ireturn, 1) := by decide +kernel
theorem dL_law_1029 : decode cL_law 1029 = .ok (.aload_n 1, 1) := by decide +kernel
theorem dL_law_1030 : decode cL_law 1030 = .ok (.aload_n 0, 1) := by decide +kernel
theorem dL_law_1031 : decode cL_law 1031 = .ok (.iload_n 3, 1) := by decide +kernel
theorem dL_law_1032 : decode cL_law 1032 = .ok (.iconst 1, 1) := by decide +kernel
theorem dL_law_1033 : decode cL_law 1033 = .ok (.iadd, 1) := by decide +kernel
theorem dL_law_1034 : decode cL_law 1034 = .ok (.iaload, 1) := by decide +kernel
theorem dL_law_1035 : decode cL_law 1035 = .ok (.i2l, 1) := by decide +kernel
theorem dL_law_1036 : decode cL_law 1036 = .ok (.bipush 32, 2) := by decide +kernel
theorem dL_law_1038 : decode cL_law 1038 = .ok (.lshl, 1) := by decide +kernel
theorem dL_law_1039 : decode cL_law 1039 = .ok (.aload_n 0, 1) := by decide +kernel
theorem dL_law_1040 : decode cL_law 1040 = .ok (.iload_n 3, 1) := by decide +kernel
theorem dL_law_1041 : decode cL_law 1041 = .ok (.iconst 2, 1) := by decide +kernel
theorem dL_law_1042 : decode cL_law 1042 = .ok (.iadd, 1) := by decide +kernel
theorem dL_law_1043 : decode cL_law 1043 = .ok (.iaload, 1) := by decide +kernel
theorem dL_law_1044 : decode cL_law 1044 = .ok (.i2l, 1) := by decide +kernel
theorem dL_law_1045 : decode cL_law 1045 = .ok (.ldc2_w 13, 3) := by decide +kernel
theorem dL_law_1048 : decode cL_law 1048 = .ok (.land, 1) := by decide +kernel
theorem dL_law_1049 : decode cL_law 1049 = .ok (.lor, 1) := by decide +kernel
theorem dL_law_1050 : decode cL_law 1050 = .ok (.invokevirtual 111, 3) := by decide +kernel
theorem dL_law_1053 : decode cL_law 1053 = .ok (.aload_n 2, 1) := by decide +kernel
theorem dL_law_1054 : decode cL_law 1054 = .ok (.aload_n 0, 1) := by decide +kernel
theorem dL_law_1055 : decode cL_law 1055 = .ok (.iload_n 3, 1) := by decide +kernel
theorem dL_law_1056 : decode cL_law 1056 = .ok (.iconst 1, 1) := by decide +kernel
theorem dL_law_1057 : decode cL_law 1057 = .ok (.iadd, 1) := by decide +kernel
theorem dL_law_1058 : decode cL_law 1058 = .ok (.iaload, 1) := by decide +kernel
theorem dL_law_1059 : decode cL_law 1059 = .ok (.i2l, 1) := by decide +kernel
theorem dL_law_1060 : decode cL_law 1060 = .ok (.bipush 32, 2) := by decide +kernel
theorem dL_law_1062 : decode cL_law 1062 = .ok (.lshl, 1) := by decide +kernel
theorem dL_law_1063 : decode cL_law 1063 = .ok (.aload_n 0, 1) := by decide +kernel
theorem dL_law_1064 : decode cL_law 1064 = .ok (.iload_n 3, 1) := by decide +kernel
theorem dL_law_1065 : decode cL_law 1065 = .ok (.iconst 2, 1) := by decide +kernel
theorem dL_law_1066 : decode cL_law 1066 = .ok (.iadd, 1) := by decide +kernel
theorem dL_law_1067 : decode cL_law 1067 = .ok (.iaload, 1) := by decide +kernel
theorem dL_law_1068 : decode cL_law 1068 = .ok (.i2l, 1) := by decide +kernel
theorem dL_law_1069 : decode cL_law 1069 = .ok (.ldc2_w 13, 3) := by decide +kernel
theorem dL_law_1072 : decode cL_law 1072 = .ok (.land, 1) := by decide +kernel
theorem dL_law_1073 : decode cL_law 1073 = .ok (.lor, 1) := by decide +kernel
theorem dL_law_1074 : decode cL_law 1074 = .ok (.invokevirtual 114, 3) := by decide +kernel
theorem dL_law_1077 : decode cL_law 1077 = .ok (.if_icmp .eq 304, 3) := by decide +kernel
theorem dL_law_1080 : decode cL_law 1080 = .ok (.iconst 0, 1) := by decide +kernel
theorem dL_law_1081 : decode cL_law 1081 = .ok (.ireturn, 1) := by decide +kernel
theorem dL_law_1082 : decode cL_law 1082 = .ok (.aload_n 1, 1) := by decide +kernel
theorem dL_law_1083 : decode cL_law 1083 = .ok (.invokevirtual 115, 3) := by decide +kernel
theorem dL_law_1086 : decode cL_law 1086 = .ok (.aload_n 2, 1) := by decide +kernel
theorem dL_law_1087 : decode cL_law 1087 = .ok (.invokevirtual 118, 3) := by decide +kernel
theorem dL_law_1090 : decode cL_law 1090 = .ok (.if_icmp .eq 291, 3) := by decide +kernel
theorem dL_law_1093 : decode cL_law 1093 = .ok (.iconst 0, 1) := by decide +kernel
theorem dL_law_1094 : decode cL_law 1094 = .ok (.ireturn, 1) := by decide +kernel
theorem dL_law_1095 : decode cL_law 1095 = .ok (.aload_n 1, 1) := by decide +kernel
theorem dL_law_1096 : decode cL_law 1096 = .ok (.invokevirtual 119, 3) := by decide +kernel
theorem dL_law_1099 : decode cL_law 1099 = .ok (.aload_n 2, 1) := by decide +kernel
theorem dL_law_1100 : decode cL_law 1100 = .ok (.invokevirtual 122, 3) := by decide +kernel
theorem dL_law_1103 : decode cL_law 1103 = .ok (.if_icmp .eq 278, 3) := by decide +kernel
theorem dL_law_1106 : decode cL_law 1106 = .ok (.iconst 0, 1) := by decide +kernel
theorem dL_law_1107 : decode cL_law 1107 = .ok (.ireturn, 1) := by decide +kernel
theorem dL_law_1108 : decode cL_law 1108 = .ok (.aload_n 1, 1) := by decide +kernel
theorem dL_law_1109 : decode cL_law 1109 = .ok (.aload_n 0, 1) := by decide +kernel
theorem dL_law_1110 : decode cL_law 1110 = .ok (.iload_n 3, 1) := by decide +kernel
theorem dL_law_1111 : decode cL_law 1111 = .ok (.iconst 1, 1) := by decide +kernel
theorem dL_law_1112 : decode cL_law 1112 = .ok (.iadd, 1) := by decide +kernel
theorem dL_law_1113 : decode cL_law 1113 = .ok (.iaload, 1) := by decide +kernel
theorem dL_law_1114 : decode cL_law 1114 = .ok (.aload_n 0, 1) := by decide +kernel
theorem dL_law_1115 : decode cL_law 1115 = .ok (.iload_n 3, 1) := by decide +kernel
theorem dL_law_1116 : decode cL_law 1116 = .ok (.iconst 2, 1) := by decide +kernel
theorem dL_law_1117 : decode cL_law 1117 = .ok (.iadd, 1) := by decide +kernel
theorem dL_law_1118 : decode cL_law 1118 = .ok (.iaload, 1) := by decide +kernel
theorem dL_law_1119 : decode cL_law 1119 = .ok (.i2l, 1) := by decide +kernel
theorem dL_law_1120 : decode cL_law 1120 = .ok (.bipush 32, 2) := by decide +kernel
theorem dL_law_1122 : decode cL_law 1122 = .ok (.lshl, 1) := by decide +kernel
theorem dL_law_1123 : decode cL_law 1123 = .ok (.aload_n 0, 1) := by decide +kernel
theorem dL_law_1124 : decode cL_law 1124 = .ok (.iload_n 3, 1) := by decide +kernel
theorem dL_law_1125 : decode cL_law 1125 = .ok (.iconst 3, 1) := by decide +kernel
theorem dL_law_1126 : decode cL_law 1126 = .ok (.iadd, 1) := by decide +kernel
theorem dL_law_1127 : decode cL_law 1127 = .ok (.iaload, 1) := by decide +kernel
theorem dL_law_1128 : decode cL_law 1128 = .ok (.i2l, 1) := by decide +kernel
theorem dL_law_1129 : decode cL_law 1129 = .ok (.ldc2_w 13, 3) := by decide +kernel
theorem dL_law_1132 : decode cL_law 1132 = .ok (.land, 1) := by decide +kernel
theorem dL_law_1133 : decode cL_law 1133 = .ok (.lor, 1) := by decide +kernel
theorem dL_law_1134 : decode cL_law 1134 = .ok (.invokevirtual 123, 3) := by decide +kernel
theorem dL_law_1137 : decode cL_law 1137 = .ok (.aload_n 2, 1) := by decide +kernel
theorem dL_law_1138 : decode cL_law 1138 = .ok (.aload_n 0, 1) := by decide +kernel
theorem dL_law_1139 : decode cL_law 1139 = .ok (.iload_n 3, 1) := by decide +kernel
theorem dL_law_1140 : decode cL_law 1140 = .ok (.iconst 1, 1) := by decide +kernel
theorem dL_law_1141 : decode cL_law 1141 = .ok (.iadd, 1) := by decide +kernel
theorem dL_law_1142 : decode cL_law 1142 = .ok (.iaload, 1) := by decide +kernel
theorem dL_law_1143 : decode cL_law 1143 = .ok (.aload_n 0, 1) := by decide +kernel
theorem dL_law_1144 : decode cL_law 1144 = .ok (.iload_n 3, 1) := by decide +kernel
theorem dL_law_1145 : decode cL_law 1145 = .ok (.iconst 2, 1) := by decide +kernel
theorem dL_law_1146 : decode cL_law 1146 = .ok (.iadd, 1) := by decide +kernel
theorem dL_law_1147 : decode cL_law 1147 = .ok (.iaload, 1) := by decide +kernel
theorem dL_law_1148 : decode cL_law 1148 = .ok (.i2l, 1) := by decide +kernel
theorem dL_law_1149 : decode cL_law 1149 = .ok (.bipush 32, 2) := by decide +kernel
theorem dL_law_1151 : decode cL_law 1151 = .ok (.lshl, 1) := by decide +kernel
theorem dL_law_1152 : decode cL_law 1152 = .ok (.aload_n 0, 1) := by decide +kernel
theorem dL_law_1153 : decode cL_law 1153 = .ok (.iload_n 3, 1) := by decide +kernel
theorem dL_law_1154 : decode cL_law 1154 = .ok (.iconst 3, 1) := by decide +kernel
theorem dL_law_1155 : decode cL_law 1155 = .ok (.iadd, 1) := by decide +kernel
theorem dL_law_1156 : decode cL_law 1156 = .ok (.iaload, 1) := by decide +kernel
theorem dL_law_1157 : decode cL_law 1157 = .ok (.i2l, 1) := by decide +kernel
theorem dL_law_1158 : decode cL_law 1158 = .ok (.ldc2_w 13, 3) := by decide +kernel
theorem dL_law_1161 : decode cL_law 1161 = .ok (.land, 1) := by decide +kernel
theorem dL_law_1162 : decode cL_law 1162 = .ok (.lor, 1) := by decide +kernel
theorem dL_law_1163 : decode cL_law 1163 = .ok (.invokevirtual 127, 3) := by decide +kernel
theorem dL_law_1166 : decode cL_law 1166 = .ok (.if_icmp .eq 215, 3) := by decide +kernel
theorem dL_law_1169 : decode cL_law 1169 = .ok (.iconst 0, 1) := by decide +kernel
theorem dL_law_1170 : decode cL_law 1170 = .ok (.ireturn, 1) := by decide +kernel
theorem dL_law_1171 : decode cL_law 1171 = .ok (.aload_n 1, 1) := by decide +kernel
theorem dL_law_1172 : decode cL_law 1172 = .ok (.aload_n 0, 1) := by decide +kernel
theorem dL_law_1173 : decode cL_law 1173 = .ok (.iload_n 3, 1) := by decide +kernel
theorem dL_law_1174 : decode cL_law 1174 = .ok (.iconst 1, 1) := by decide +kernel
theorem dL_law_1175 : decode cL_law 1175 = .ok (.iadd, 1) := by decide +kernel
theorem dL_law_1176 : decode cL_law 1176 = .ok (.iaload, 1) := by decide +kernel
theorem dL_law_1177 : decode cL_law 1177 = .ok (.invokevirtual 128, 3) := by decide +kernel
theorem dL_law_1180 : decode cL_law 1180 = .ok (.aload_n 2, 1) := by decide +kernel
theorem dL_law_1181 : decode cL_law 1181 = .ok (.aload_n 0, 1) := by decide +kernel
theorem dL_law_1182 : decode cL_law 1182 = .ok (.iload_n 3, 1) := by decide +kernel
theorem dL_law_1183 : decode cL_law 1183 = .ok (.iconst 1, 1) := by decide +kernel
theorem dL_law_1184 : decode cL_law 1184 = .ok (.iadd, 1) := by decide +kernel
theorem dL_law_1185 : decode cL_law 1185 = .ok (.iaload, 1) := by decide +kernel
theorem dL_law_1186 : decode cL_law 1186 = .ok (.invokevirtual 131, 3) := by decide +kernel
theorem dL_law_1189 : decode cL_law 1189 = .ok (.if_icmp .eq 192, 3) := by decide +kernel
theorem dL_law_1192 : decode cL_law 1192 = .ok (.iconst 0, 1) := by decide +kernel
theorem dL_law_1193 : decode cL_law 1193 = .ok (.ireturn, 1) := by decide +kernel
theorem dL_law_1194 : decode cL_law 1194 = .ok (.aload_n 1, 1) := by decide +kernel
theorem dL_law_1195 : decode cL_law 1195 = .ok (.aload_n 0, 1) := by decide +kernel
theorem dL_law_1196 : decode cL_law 1196 = .ok (.iload_n 3, 1) := by decide +kernel
theorem dL_law_1197 : decode cL_law 1197 = .ok (.iconst 1, 1) := by decide +kernel
theorem dL_law_1198 : decode cL_law 1198 = .ok (.iadd, 1) := by decide +kernel
theorem dL_law_1199 : decode cL_law 1199 = .ok (.iaload, 1) := by decide +kernel
theorem dL_law_1200 : decode cL_law 1200 = .ok (.invokevirtual 132, 3) := by decide +kernel
theorem dL_law_1203 : decode cL_law 1203 = .ok (.aload_n 2, 1) := by decide +kernel
theorem dL_law_1204 : decode cL_law 1204 = .ok (.aload_n 0, 1) := by decide +kernel
theorem dL_law_1205 : decode cL_law 1205 = .ok (.iload_n 3, 1) := by decide +kernel
theorem dL_law_1206 : decode cL_law 1206 = .ok (.iconst 1, 1) := by decide +kernel
theorem dL_law_1207 : decode cL_law 1207 = .ok (.iadd, 1) := by decide +kernel
theorem dL_law_1208 : decode cL_law 1208 = .ok (.iaload, 1) := by decide +kernel
theorem dL_law_1209 : decode cL_law 1209 = .ok (.invokevirtual 135, 3) := by decide +kernel
theorem dL_law_1212 : decode cL_law 1212 = .ok (.if_icmp .eq 169, 3) := by decide +kernel
theorem dL_law_1215 : decode cL_law 1215 = .ok (.iconst 0, 1) := by decide +kernel
theorem dL_law_1216 : decode cL_law 1216 = .ok (.ireturn, 1) := by decide +kernel
theorem dL_law_1217 : decode cL_law 1217 = .ok (.aload_n 1, 1) := by decide +kernel
theorem dL_law_1218 : decode cL_law 1218 = .ok (.invokevirtual 136, 3) := by decide +kernel
theorem dL_law_1221 : decode cL_law 1221 = .ok (.aload_n 2, 1) := by decide +kernel
theorem dL_law_1222 : decode cL_law 1222 = .ok (.invokevirtual 139, 3) := by decide +kernel
theorem dL_law_1225 : decode cL_law 1225 = .ok (.if_icmp .eq 156, 3) := by decide +kernel
theorem dL_law_1228 : decode cL_law 1228 = .ok (.iconst 0, 1) := by decide +kernel
theorem dL_law_1229 : decode cL_law 1229 = .ok (.ireturn, 1) := by decide +kernel
theorem dL_law_1230 : decode cL_law 1230 = .ok (.aload_n 1, 1) := by decide +kernel
theorem dL_law_1231 : decode cL_law 1231 = .ok (.aload_n 0, 1) := by decide +kernel
theorem dL_law_1232 : decode cL_law 1232 = .ok (.iload_n 3, 1) := by decide +kernel
theorem dL_law_1233 : decode cL_law 1233 = .ok (.iconst 1, 1) := by decide +kernel
theorem dL_law_1234 : decode cL_law 1234 = .ok (.iadd, 1) := by decide +kernel
theorem dL_law_1235 : decode cL_law 1235 = .ok (.iaload, 1) := by decide +kernel
theorem dL_law_1236 : decode cL_law 1236 = .ok (.invokevirtual 140, 3) := by decide +kernel
theorem dL_law_1239 : decode cL_law 1239 = .ok (.aload_n 2, 1) := by decide +kernel
theorem dL_law_1240 : decode cL_law 1240 = .ok (.aload_n 0, 1) := by decide +kernel
theorem dL_law_1241 : decode cL_law 1241 = .ok (.iload_n 3, 1) := by decide +kernel
theorem dL_law_1242 : decode cL_law 1242 = .ok (.iconst 1, 1) := by decide +kernel
theorem dL_law_1243 : decode cL_law 1243 = .ok (.iadd, 1) := by decide +kernel
theorem dL_law_1244 : decode cL_law 1244 = .ok (.iaload, 1) := by decide +kernel
theorem dL_law_1245 : decode cL_law 1245 = .ok (.invokevirtual 143, 3) := by decide +kernel
theorem dL_law_1248 : decode cL_law 1248 = .ok (.if_icmp .eq 133, 3) := by decide +kernel
theorem dL_law_1251 : decode cL_law 1251 = .ok (.iconst 0, 1) := by decide +kernel
theorem dL_law_1252 : decode cL_law 1252 = .ok (.ireturn, 1) := by decide +kernel
theorem dL_law_1253 : decode cL_law 1253 = .ok (.aload_n 1, 1) := by decide +kernel
theorem dL_law_1254 : decode cL_law 1254 = .ok (.invokevirtual 144, 3) := by decide +kernel
theorem dL_law_1257 : decode cL_law 1257 = .ok (.aload_n 2, 1) := by decide +kernel
theorem dL_law_1258 : decode cL_law 1258 = .ok (.invokevirtual 147, 3) := by decide +kernel
theorem dL_law_1261 : decode cL_law 1261 = .ok (.if_icmp .eq 120, 3) := by decide +kernel
theorem dL_law_1264 : decode cL_law 1264 = .ok (.iconst 0, 1) := by decide +kernel
theorem dL_law_1265 : decode cL_law 1265 = .ok (.ireturn, 1) := by decide +kernel
theorem dL_law_1266 : decode cL_law 1266 = .ok (.aload_n 1, 1) := by decide +kernel
theorem dL_law_1267 : decode cL_law 1267 = .ok (.invokevirtual 148, 3) := by decide +kernel
theorem dL_law_1270 : decode cL_law 1270 = .ok (.aload_n 2, 1) := by decide +kernel
theorem dL_law_1271 : decode cL_law 1271 = .ok (.invokevirtual 151, 3) := by decide +kernel
theorem dL_law_1274 : decode cL_law 1274 = .ok (.if_icmp .eq 107, 3) := by decide +kernel
theorem dL_law_1277 : decode cL_law 1277 = .ok (.iconst 0, 1) := by decide +kernel
theorem dL_law_1278 : decode cL_law 1278 = .ok (.ireturn, 1) := by decide +kernel
theorem dL_law_1279 : decode cL_law 1279 = .ok (.aload_n 1, 1) := by decide +kernel
theorem dL_law_1280 : decode cL_law 1280 = .ok (.aload_n 0, 1) := by decide +kernel
theorem dL_law_1281 : decode cL_law 1281 = .ok (.iload_n 3, 1) := by decide +kernel
theorem dL_law_1282 : decode cL_law 1282 = .ok (.iconst 1, 1) := by decide +kernel
theorem dL_law_1283 : decode cL_law 1283 = .ok (.iadd, 1) := by decide +kernel
theorem dL_law_1284 : decode cL_law 1284 = .ok (.iaload, 1) := by decide +kernel
theorem dL_law_1285 : decode cL_law 1285 = .ok (.aload_n 0, 1) := by decide +kernel
theorem dL_law_1286 : decode cL_law 1286 = .ok (.iload_n 3, 1) := by decide +kernel
theorem dL_law_1287 : decode cL_law 1287 = .ok (.iconst 2, 1) := by decide +kernel
theorem dL_law_1288 : decode cL_law 1288 = .ok (.iadd, 1) := by decide +kernel
theorem dL_law_1289 : decode cL_law 1289 = .ok (.iaload, 1) := by decide +kernel
theorem dL_law_1290 : decode cL_law 1290 = .ok (.invokevirtual 152, 3) := by decide +kernel
theorem dL_law_1293 : decode cL_law 1293 = .ok (.aload_n 2, 1) := by decide +kernel
theorem dL_law_1294 : decode cL_law 1294 = .ok (.aload_n 0, 1) := by decide +kernel
theorem dL_law_1295 : decode cL_law 1295 = .ok (.iload_n 3, 1) := by decide +kernel
theorem dL_law_1296 : decode cL_law 1296 = .ok (.iconst 1, 1) := by decide +kernel
theorem dL_law_1297 : decode cL_law 1297 = .ok (.iadd, 1) := by decide +kernel
theorem dL_law_1298 : decode cL_law 1298 = .ok (.iaload, 1) := by decide +kernel
theorem dL_law_1299 : decode cL_law 1299 = .ok (.aload_n 0, 1) := by decide +kernel
theorem dL_law_1300 : decode cL_law 1300 = .ok (.iload_n 3, 1) := by decide +kernel
theorem dL_law_1301 : decode cL_law 1301 = .ok (.iconst 2, 1) := by decide +kernel
theorem dL_law_1302 : decode cL_law 1302 = .ok (.iadd, 1) := by decide +kernel
theorem dL_law_1303 : decode cL_law 1303 = .ok (.iaload, 1) := by decide +kernel
theorem dL_law_1304 : decode cL_law 1304 = .ok (.invokevirtual 155, 3) := by decide +kernel
theorem dL_law_1307 : decode cL_law 1307 = .ok (.if_icmp .eq 74, 3) := by decide +kernel
theorem dL_law_1310 : decode cL_law 1310 = .ok (.iconst 0, 1) := by decide +kernel
theorem dL_law_1311 : decode cL_law 1311 = .ok (.ireturn, 1) := by decide +kernel
theorem dL_law_1312 : decode cL_law 1312 = .ok (.aload_n 1, 1) := by decide +kernel
theorem dL_law_1313 : decode cL_law 1313 = .ok (.aload_n 0, 1) := by decide +kernel
theorem dL_law_1314 : decode cL_law 1314 = .ok (.iload_n 3, 1) := by decide +kernel
theorem dL_law_1315 : decode cL_law 1315 = .ok (.iconst 1, 1) := by decide +kernel
theorem dL_law_1316 : decode cL_law 1316 = .ok (.iadd, 1) := by decide +kernel
theorem dL_law_1317 : decode cL_law 1317 = .ok (.iaload, 1) := by decide +kernel
theorem dL_law_1318 : decode cL_law 1318 = .ok (.invokevirtual 156, 3) := by decide +kernel
theorem dL_law_1321 : decode cL_law 1321 = .ok (.aload_n 2, 1) := by decide +kernel
theorem dL_law_1322 : decode cL_law 1322 = .ok (.aload_n 0, 1) := by decide +kernel
theorem dL_law_1323 : decode cL_law 1323 = .ok (.iload_n 3, 1) := by decide +kernel
theorem dL_law_1324 : decode cL_law 1324 = .ok (.iconst 1, 1) := by decide +kernel
theorem dL_law_1325 : decode cL_law 1325 = .ok (.iadd, 1) := by decide +kernel
theorem dL_law_1326 : decode cL_law 1326 = .ok (.iaload, 1) := by decide +kernel
theorem dL_law_1327 : decode cL_law 1327 = .ok (.invokevirtual 159, 3) := by decide +kernel
theorem dL_law_1330 : decode cL_law 1330 = .ok (.if_icmp .eq 51, 3) := by decide +kernel
theorem dL_law_1333 : decode cL_law 1333 = .ok (.iconst 0, 1) := by decide +kernel
theorem dL_law_1334 : decode cL_law 1334 = .ok (.ireturn, 1) := by decide +kernel
theorem dL_law_1335 : decode cL_law 1335 = .ok (.aload_n 1, 1) := by decide +kernel
theorem dL_law_1336 : decode cL_law 1336 = .ok (.aload_n 0, 1) := by decide +kernel
theorem dL_law_1337 : decode cL_law 1337 = .ok (.iload_n 3, 1) := by decide +kernel
theorem dL_law_1338 : decode cL_law 1338 = .ok (.iconst 1, 1) := by decide +kernel
theorem dL_law_1339 : decode cL_law 1339 = .ok (.iadd, 1) := by decide +kernel
theorem dL_law_1340 : decode cL_law 1340 = .ok (.iaload, 1) := by decide +kernel
theorem dL_law_1341 : decode cL_law 1341 = .ok (.invokevirtual 160, 3) := by decide +kernel
theorem dL_law_1344 : decode cL_law 1344 = .ok (.aload_n 2, 1) := by decide +kernel
theorem dL_law_1345 : decode cL_law 1345 = .ok (.aload_n 0, 1) := by decide +kernel
theorem dL_law_1346 : decode cL_law 1346 = .ok (.iload_n 3, 1) := by decide +kernel
theorem dL_law_1347 : decode cL_law 1347 = .ok (.iconst 1, 1) := by decide +kernel
theorem dL_law_1348 : decode cL_law 1348 = .ok (.iadd, 1) := by decide +kernel
theorem dL_law_1349 : decode cL_law 1349 = .ok (.iaload, 1) := by decide +kernel
theorem dL_law_1350 : decode cL_law 1350 = .ok (.invokevirtual 163, 3) := by decide +kernel
theorem dL_law_1353 : decode cL_law 1353 = .ok (.if_icmp .eq 28, 3) := by decide +kernel
theorem dL_law_1356 : decode cL_law 1356 = .ok (.iconst 0, 1) := by decide +kernel
theorem dL_law_1357 : decode cL_law 1357 = .ok (.ireturn, 1) := by decide +kernel
theorem dL_law_1358 : decode cL_law 1358 = .ok (.aload_n 1, 1) := by decide +kernel
theorem dL_law_1359 : decode cL_law 1359 = .ok (.aload_n 0, 1) := by decide +kernel
theorem dL_law_1360 : decode cL_law 1360 = .ok (.iload_n 3, 1) := by decide +kernel
theorem dL_law_1361 : decode cL_law 1361 = .ok (.iconst 1, 1) := by decide +kernel
theorem dL_law_1362 : decode cL_law 1362 = .ok (.iadd, 1) := by decide +kernel
theorem dL_law_1363 : decode cL_law 1363 = .ok (.iaload, 1) := by decide +kernel
theorem dL_law_1364 : decode cL_law 1364 = .ok (.invokevirtual 164, 3) := by decide +kernel
theorem dL_law_1367 : decode cL_law 1367 = .ok (.aload_n 2, 1) := by decide +kernel
theorem dL_law_1368 : decode cL_law 1368 = .ok (.aload_n 0, 1) := by decide +kernel
theorem dL_law_1369 : decode cL_law 1369 = .ok (.iload_n 3, 1) := by decide +kernel
theorem dL_law_1370 : decode cL_law 1370 = .ok (.iconst 1, 1) := by decide +kernel
theorem dL_law_1371 : decode cL_law 1371 = .ok (.iadd, 1) := by decide +kernel
theorem dL_law_1372 : decode cL_law 1372 = .ok (.iaload, 1) := by decide +kernel
theorem dL_law_1373 : decode cL_law 1373 = .ok (.invokevirtual 167, 3) := by decide +kernel
theorem dL_law_1376 : decode cL_law 1376 = .ok (.if_icmp .eq 5, 3) := by decide +kernel
theorem dL_law_1379 : decode cL_law 1379 = .ok (.iconst 0, 1) := by decide +kernel
theorem dL_law_1380 : decode cL_law 1380 = .ok (.ireturn, 1) := by decide +kernel
theorem dL_law_1381 : decode cL_law 1381 = .ok (.iinc 3 5, 3) := by decide +kernel
theorem dL_law_1384 : decode cL_law 1384 = .ok (.goto (-1366), 3) := by decide +kernel
theorem dL_law_1387 : decode cL_law 1387 = .ok (.iconst 1, 1) := by decide +kernel
theorem dL_law_1388 : decode cL_law 1388 = .ok (.ireturn, 1) := by decide +kernel

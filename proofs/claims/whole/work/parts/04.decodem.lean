theorem dX10_init_0 : decode cX10_init 0 = .ok (.aload_n 0, 1) := by decide +kernel
theorem dX10_init_1 : decode cX10_init 1 = .ok (.aconst_null, 1) := by decide +kernel
theorem dX10_init_2 : decode cX10_init 2 = .ok (.aconst_null, 1) := by decide +kernel
theorem dX10_init_3 : decode cX10_init 3 = .ok (.iconst 0, 1) := by decide +kernel
theorem dX10_init_4 : decode cX10_init 4 = .ok (.iconst 0, 1) := by decide +kernel
theorem dX10_init_5 : decode cX10_init 5 = .ok (.invokespecial 1, 3) := by decide +kernel
theorem dX10_init_8 : decode cX10_init 8 = .ok (.return_, 1) := by decide +kernel
theorem dX11_init_0 : decode cX11_init 0 = .ok (.aload_n 0, 1) := by decide +kernel
theorem dX11_init_1 : decode cX11_init 1 = .ok (.invokespecial 3, 3) := by decide +kernel
theorem dX11_init_4 : decode cX11_init 4 = .ok (.aload_n 0, 1) := by decide +kernel
theorem dX11_init_5 : decode cX11_init 5 = .ok (.iconst (-1), 1) := by decide +kernel
theorem dX11_init_6 : decode cX11_init 6 = .ok (.putfield 11, 3) := by decide +kernel
theorem dX11_init_9 : decode cX11_init 9 = .ok (.aload_n 0, 1) := by decide +kernel
theorem dX11_init_10 : decode cX11_init 10 = .ok (.iconst (-1), 1) := by decide +kernel
theorem dX11_init_11 : decode cX11_init 11 = .ok (.putfield 15, 3) := by decide +kernel
theorem dX11_init_14 : decode cX11_init 14 = .ok (.aload_n 0, 1) := by decide +kernel
theorem dX11_init_15 : decode cX11_init 15 = .ok (.bipush 100, 2) := by decide +kernel
theorem dX11_init_17 : decode cX11_init 17 = .ok (.newarray .int, 2) := by decide +kernel
theorem dX11_init_19 : decode cX11_init 19 = .ok (.putfield 18, 3) := by decide +kernel
theorem dX11_init_22 : decode cX11_init 22 = .ok (.aload_n 0, 1) := by decide +kernel
theorem dX11_init_23 : decode cX11_init 23 = .ok (.bipush 100, 2) := by decide +kernel
theorem dX11_init_25 : decode cX11_init 25 = .ok (.newarray .int, 2) := by decide +kernel
theorem dX11_init_27 : decode cX11_init 27 = .ok (.putfield 22, 3) := by decide +kernel
theorem dX11_init_30 : decode cX11_init 30 = .ok (.aload_n 0, 1) := by decide +kernel
theorem dX11_init_31 : decode cX11_init 31 = .ok (.bipush 100, 2) := by decide +kernel
theorem dX11_init_33 : decode cX11_init 33 = .ok (.newarray .long, 2) := by decide +kernel
theorem dX11_init_35 : decode cX11_init 35 = .ok (.putfield 25, 3) := by decide +kernel
theorem dX11_init_38 : decode cX11_init 38 = .ok (.aload_n 0, 1) := by decide +kernel
theorem dX11_init_39 : decode cX11_init 39 = .ok (.bipush 100, 2) := by decide +kernel
theorem dX11_init_41 : decode cX11_init 41 = .ok (.newarray .long, 2) := by decide +kernel
theorem dX11_init_43 : decode cX11_init 43 = .ok (.putfield 29, 3) := by decide +kernel
theorem dX11_init_46 : decode cX11_init 46 = .ok (.aload_n 0, 1) := by decide +kernel
theorem dX11_init_47 : decode cX11_init 47 = .ok (.sipush 10000, 3) := by decide +kernel
theorem dX11_init_50 : decode cX11_init 50 = .ok (.newarray .boolean, 2) := by decide +kernel
theorem dX11_init_52 : decode cX11_init 52 = .ok (.putfield 32, 3) := by decide +kernel
theorem dX11_init_55 : decode cX11_init 55 = .ok (.aload_n 0, 1) := by decide +kernel
theorem dX11_init_56 : decode cX11_init 56 = .ok (.new 36, 3) := by decide +kernel
theorem dX11_init_59 : decode cX11_init 59 = .ok (.dup, 1) := by decide +kernel
theorem dX11_init_60 : decode cX11_init 60 = .ok (.invokespecial 38, 3) := by decide +kernel
theorem dX11_init_63 : decode cX11_init 63 = .ok (.putfield 39, 3) := by decide +kernel
theorem dX11_init_66 : decode cX11_init 66 = .ok (.aload_n 0, 1) := by decide +kernel
theorem dX11_init_67 : decode cX11_init 67 = .ok (.sipush 400, 3) := by decide +kernel
theorem dX11_init_70 : decode cX11_init 70 = .ok (.newarray .byte, 2) := by decide +kernel
theorem dX11_init_72 : decode cX11_init 72 = .ok (.putfield 43, 3) := by decide +kernel
theorem dX11_init_75 : decode cX11_init 75 = .ok (.aload_n 0, 1) := by decide +kernel
theorem dX11_init_76 : decode cX11_init 76 = .ok (.bipush 13, 2) := by decide +kernel
theorem dX11_init_78 : decode cX11_init 78 = .ok (.newarray .int, 2) := by decide +kernel
theorem dX11_init_80 : decode cX11_init 80 = .ok (.putfield 47, 3) := by decide +kernel
theorem dX11_init_83 : decode cX11_init 83 = .ok (.aload_n 0, 1) := by decide +kernel
theorem dX11_init_84 : decode cX11_init 84 = .ok (.bipush 104, 2) := by decide +kernel
theorem dX11_init_86 : decode cX11_init 86 = .ok (.newarray .int, 2) := by decide +kernel
theorem dX11_init_88 : decode cX11_init 88 = .ok (.putfield 50, 3) := by decide +kernel
theorem dX11_init_91 : decode cX11_init 91 = .ok (.aload_n 0, 1) := by decide +kernel
theorem dX11_init_92 : decode cX11_init 92 = .ok (.bipush 104, 2) := by decide +kernel
theorem dX11_init_94 : decode cX11_init 94 = .ok (.newarray .int, 2) := by decide +kernel
theorem dX11_init_96 : decode cX11_init 96 = .ok (.putfield 53, 3) := by decide +kernel
theorem dX11_init_99 : decode cX11_init 99 = .ok (.aload_n 0, 1) := by decide +kernel
theorem dX11_init_100 : decode cX11_init 100 = .ok (.bipush 104, 2) := by decide +kernel
theorem dX11_init_102 : decode cX11_init 102 = .ok (.newarray .int, 2) := by decide +kernel
theorem dX11_init_104 : decode cX11_init 104 = .ok (.putfield 56, 3) := by decide +kernel
theorem dX11_init_107 : decode cX11_init 107 = .ok (.aload_n 0, 1) := by decide +kernel
theorem dX11_init_108 : decode cX11_init 108 = .ok (.bipush 104, 2) := by decide +kernel
theorem dX11_init_110 : decode cX11_init 110 = .ok (.newarray .boolean, 2) := by decide +kernel
theorem dX11_init_112 : decode cX11_init 112 = .ok (.putfield 59, 3) := by decide +kernel
theorem dX11_init_115 : decode cX11_init 115 = .ok (.aload_n 0, 1) := by decide +kernel
theorem dX11_init_116 : decode cX11_init 116 = .ok (.bipush 104, 2) := by decide +kernel
theorem dX11_init_118 : decode cX11_init 118 = .ok (.newarray .long, 2) := by decide +kernel
theorem dX11_init_120 : decode cX11_init 120 = .ok (.putfield 62, 3) := by decide +kernel
theorem dX11_init_123 : decode cX11_init 123 = .ok (.aload_n 0, 1) := by decide +kernel
theorem dX11_init_124 : decode cX11_init 124 = .ok (.sipush 416, 3) := by decide +kernel
theorem dX11_init_127 : decode cX11_init 127 = .ok (.newarray .long, 2) := by decide +kernel
theorem dX11_init_129 : decode cX11_init 129 = .ok (.putfield 65, 3) := by decide +kernel
theorem dX11_init_132 : decode cX11_init 132 = .ok (.aload_n 0, 1) := by decide +kernel
theorem dX11_init_133 : decode cX11_init 133 = .ok (.iconst (-1), 1) := by decide +kernel
theorem dX11_init_134 : decode cX11_init 134 = .ok (.putfield 68, 3) := by decide +kernel
theorem dX11_init_137 : decode cX11_init 137 = .ok (.aload_n 0, 1) := by decide +kernel
theorem dX11_init_138 : decode cX11_init 138 = .ok (.bipush 61, 2) := by decide +kernel
theorem dX11_init_140 : decode cX11_init 140 = .ok (.newarray .int, 2) := by decide +kernel
theorem dX11_init_142 : decode cX11_init 142 = .ok (.putfield 71, 3) := by decide +kernel
theorem dX11_init_145 : decode cX11_init 145 = .ok (.aload_n 0, 1) := by decide +kernel
theorem dX11_init_146 : decode cX11_init 146 = .ok (.bipush 61, 2) := by decide +kernel
theorem dX11_init_148 : decode cX11_init 148 = .ok (.newarray .int, 2) := by decide +kernel
theorem dX11_init_150 : decode cX11_init 150 = .ok (.putfield 74, 3) := by decide +kernel
theorem dX11_init_153 : decode cX11_init 153 = .ok (.aload_n 0, 1) := by decide +kernel
theorem dX11_init_154 : decode cX11_init 154 = .ok (.bipush 61, 2) := by decide +kernel
theorem dX11_init_156 : decode cX11_init 156 = .ok (.newarray .int, 2) := by decide +kernel
theorem dX11_init_158 : decode cX11_init 158 = .ok (.putfield 77, 3) := by decide +kernel
theorem dX11_init_161 : decode cX11_init 161 = .ok (.aload_n 0, 1) := by decide +kernel
theorem dX11_init_162 : decode cX11_init 162 = .ok (.bipush 61, 2) := by decide +kernel
theorem dX11_init_164 : decode cX11_init 164 = .ok (.newarray .int, 2) := by decide +kernel
theorem dX11_init_166 : decode cX11_init 166 = .ok (.putfield 80, 3) := by decide +kernel
theorem dX11_init_169 : decode cX11_init 169 = .ok (.aload_n 0, 1) := by decide +kernel
theorem dX11_init_170 : decode cX11_init 170 = .ok (.bipush 61, 2) := by decide +kernel
theorem dX11_init_172 : decode cX11_init 172 = .ok (.newarray .int, 2) := by decide +kernel
theorem dX11_init_174 : decode cX11_init 174 = .ok (.putfield 83, 3) := by decide +kernel
theorem dX11_init_177 : decode cX11_init 177 = .ok (.aload_n 0, 1) := by decide +kernel
theorem dX11_init_178 : decode cX11_init 178 = .ok (.bipush 61, 2) := by decide +kernel
theorem dX11_init_180 : decode cX11_init 180 = .ok (.newarray .int, 2) := by decide +kernel
theorem dX11_init_182 : decode cX11_init 182 = .ok (.putfield 86, 3) := by decide +kernel
theorem dX11_init_185 : decode cX11_init 185 = .ok (.aload_n 0, 1) := by decide +kernel
theorem dX11_init_186 : decode cX11_init 186 = .ok (.sipush 488, 3) := by decide +kernel
theorem dX11_init_189 : decode cX11_init 189 = .ok (.newarray .long, 2) := by decide +kernel
theorem dX11_init_191 : decode cX11_init 191 = .ok (.putfield 89, 3) := by decide +kernel
theorem dX11_init_194 : decode cX11_init 194 = .ok (.aload_n 0, 1) := by decide +kernel
theorem dX11_init_195 : decode cX11_init 195 = .ok (.bipush 61, 2) := by decide +kernel
theorem dX11_init_197 : decode cX11_init 197 = .ok (.newarray .long, 2) := by decide +kernel
theorem dX11_init_199 : decode cX11_init 199 = .ok (.putfield 92, 3) := by decide +kernel
theorem dX11_init_202 : decode cX11_init 202 = .ok (.aload_n 0, 1) := by decide +kernel
theorem dX11_init_203 : decode cX11_init 203 = .ok (.bipush 61, 2) := by decide +kernel
theorem dX11_init_205 : decode cX11_init 205 = .ok (.newarray .long, 2) := by decide +kernel
theorem dX11_init_207 : decode cX11_init 207 = .ok (.putfield 95, 3) := by decide +kernel
theorem dX11_init_210 : decode cX11_init 210 = .ok (.aload_n 0, 1) := by decide +kernel
theorem dX11_init_211 : decode cX11_init 211 = .ok (.bipush 61, 2) := by decide +kernel
theorem dX11_init_213 : decode cX11_init 213 = .ok (.newarray .long, 2) := by decide +kernel
theorem dX11_init_215 : decode cX11_init 215 = .ok (.putfield 98, 3) := by decide +kernel
theorem dX11_init_218 : decode cX11_init 218 = .ok (.aload_n 0, 1) := by decide +kernel
theorem dX11_init_219 : decode cX11_init 219 = .ok (.sipush 488, 3) := by decide +kernel
theorem dX11_init_222 : decode cX11_init 222 = .ok (.newarray .boolean, 2) := by decide +kernel
theorem dX11_init_224 : decode cX11_init 224 = .ok (.putfield 101, 3) := by decide +kernel
theorem dX11_init_227 : decode cX11_init 227 = .ok (.aload_n 0, 1) := by decide +kernel
theorem dX11_init_228 : decode cX11_init 228 = .ok (.sipush 240, 3) := by decide +kernel
theorem dX11_init_231 : decode cX11_init 231 = .ok (.newarray .int, 2) := by decide +kernel
theorem dX11_init_233 : decode cX11_init 233 = .ok (.putfield 104, 3) := by decide +kernel
theorem dX11_init_236 : decode cX11_init 236 = .ok (.aload_n 0, 1) := by decide +kernel
theorem dX11_init_237 : decode cX11_init 237 = .ok (.sipush 240, 3) := by decide +kernel
theorem dX11_init_240 : decode cX11_init 240 = .ok (.newarray .int, 2) := by decide +kernel
theorem dX11_init_242 : decode cX11_init 242 = .ok (.putfield 107, 3) := by decide +kernel
theorem dX11_init_245 : decode cX11_init 245 = .ok (.aload_n 0, 1) := by decide +kernel
theorem dX11_init_246 : decode cX11_init 246 = .ok (.sipush 240, 3) := by decide +kernel
theorem dX11_init_249 : decode cX11_init 249 = .ok (.newarray .int, 2) := by decide +kernel
theorem dX11_init_251 : decode cX11_init 251 = .ok (.putfield 110, 3) := by decide +kernel
theorem dX11_init_254 : decode cX11_init 254 = .ok (.aload_n 0, 1) := by decide +kernel
theorem dX11_init_255 : decode cX11_init 255 = .ok (.bipush 40, 2) := by decide +kernel
theorem dX11_init_257 : decode cX11_init 257 = .ok (.newarray .int, 2) := by decide +kernel
theorem dX11_init_259 : decode cX11_init 259 = .ok (.putfield 113, 3) := by decide +kernel
theorem dX11_init_262 : decode cX11_init 262 = .ok (.aload_n 0, 1) := by decide +kernel
theorem dX11_init_263 : decode cX11_init 263 = .ok (.bipush 40, 2) := by decide +kernel
theorem dX11_init_265 : decode cX11_init 265 = .ok (.newarray .int, 2) := by decide +kernel
theorem dX11_init_267 : decode cX11_init 267 = .ok (.putfield 116, 3) := by decide +kernel
theorem dX11_init_270 : decode cX11_init 270 = .ok (.aload_n 0, 1) := by decide +kernel
theorem dX11_init_271 : decode cX11_init 271 = .ok (.bipush 40, 2) := by decide +kernel
theorem dX11_init_273 : decode cX11_init 273 = .ok (.newarray .int, 2) := by decide +kernel
theorem dX11_init_275 : decode cX11_init 275 = .ok (.putfield 119, 3) := by decide +kernel
theorem dX11_init_278 : decode cX11_init 278 = .ok (.aload_n 0, 1) := by decide +kernel
theorem dX11_init_279 : decode cX11_init 279 = .ok (.bipush 40, 2) := by decide +kernel
theorem dX11_init_281 : decode cX11_init 281 = .ok (.newarray .int, 2) := by decide +kernel
theorem dX11_init_283 : decode cX11_init 283 = .ok (.putfield 122, 3) := by decide +kernel
theorem dX11_init_286 : decode cX11_init 286 = .ok (.aload_n 0, 1) := by decide +kernel
theorem dX11_init_287 : decode cX11_init 287 = .ok (.bipush 40, 2) := by decide +kernel
theorem dX11_init_289 : decode cX11_init 289 = .ok (.newarray .int, 2) := by decide +kernel
theorem dX11_init_291 : decode cX11_init 291 = .ok (.putfield 125, 3) := by decide +kernel
theorem dX11_init_294 : decode cX11_init 294 = .ok (.aload_n 0, 1) := by decide +kernel
theorem dX11_init_295 : decode cX11_init 295 = .ok (.sipush 480, 3) := by decide +kernel
theorem dX11_init_298 : decode cX11_init 298 = .ok (.newarray .int, 2) := by decide +kernel
theorem dX11_init_300 : decode cX11_init 300 = .ok (.putfield 128, 3) := by decide +kernel
theorem dX11_init_303 : decode cX11_init 303 = .ok (.aload_n 0, 1) := by decide +kernel
theorem dX11_init_304 : decode cX11_init 304 = .ok (.bipush 12, 2) := by decide +kernel
theorem dX11_init_306 : decode cX11_init 306 = .ok (.newarray .int, 2) := by decide +kernel
theorem dX11_init_308 : decode cX11_init 308 = .ok (.putfield 131, 3) := by decide +kernel
theorem dX11_init_311 : decode cX11_init 311 = .ok (.aload_n 0, 1) := by decide +kernel
theorem dX11_init_312 : decode cX11_init 312 = .ok (.sipush 4096, 3) := by decide +kernel
theorem dX11_init_315 : decode cX11_init 315 = .ok (.newarray .int, 2) := by decide +kernel
theorem dX11_init_317 : decode cX11_init 317 = .ok (.putfield 134, 3) := by decide +kernel
theorem dX11_init_320 : decode cX11_init 320 = .ok (.aload_n 0, 1) := by decide +kernel
theorem dX11_init_321 : decode cX11_init 321 = .ok (.sipush 4096, 3) := by decide +kernel
theorem dX11_init_324 : decode cX11_init 324 = .ok (.newarray .int, 2) := by decide +kernel
theorem dX11_init_326 : decode cX11_init 326 = .ok (.putfield 137, 3) := by decide +kernel
theorem dX11_init_329 : decode cX11_init 329 = .ok (.aload_n 0, 1) := by decide +kernel
theorem dX11_init_330 : decode cX11_init 330 = .ok (.bipush 60, 2) := by decide +kernel
theorem dX11_init_332 : decode cX11_init 332 = .ok (.newarray .boolean, 2) := by decide +kernel
theorem dX11_init_334 : decode cX11_init 334 = .ok (.putfield 140, 3) := by decide +kernel
theorem dX11_init_337 : decode cX11_init 337 = .ok (.aload_n 0, 1) := by decide +kernel
theorem dX11_init_338 : decode cX11_init 338 = .ok (.sipush 10000, 3) := by decide +kernel
theorem dX11_init_341 : decode cX11_init 341 = .ok (.newarray .int, 2) := by decide +kernel
theorem dX11_init_343 : decode cX11_init 343 = .ok (.putfield 143, 3) := by decide +kernel
theorem dX11_init_346 : decode cX11_init 346 = .ok (.aload_n 0, 1) := by decide +kernel
theorem dX11_init_347 : decode cX11_init 347 = .ok (.sipush 10000, 3) := by decide +kernel
theorem dX11_init_350 : decode cX11_init 350 = .ok (.newarray .int, 2) := by decide +kernel
theorem dX11_init_352 : decode cX11_init 352 = .ok (.putfield 146, 3) := by decide +kernel
theorem dX11_init_355 : decode cX11_init 355 = .ok (.aload_n 0, 1) := by decide +kernel
theorem dX11_init_356 : decode cX11_init 356 = .ok (.sipush 10000, 3) := by decide +kernel
theorem dX11_init_359 : decode cX11_init 359 = .ok (.newarray .boolean, 2) := by decide +kernel
theorem dX11_init_361 : decode cX11_init 361 = .ok (.putfield 149, 3) := by decide +kernel
theorem dX11_init_364 : decode cX11_init 364 = .ok (.aload_n 0, 1) := by decide +kernel
theorem dX11_init_365 : decode cX11_init 365 = .ok (.bipush 61, 2) := by decide +kernel
theorem dX11_init_367 : decode cX11_init 367 = .ok (.newarray .long, 2) := by decide +kernel
theorem dX11_init_369 : decode cX11_init 369 = .ok (.putfield 152, 3) := by decide +kernel
theorem dX11_init_372 : decode cX11_init 372 = .ok (.aload_n 0, 1) := by decide +kernel
theorem dX11_init_373 : decode cX11_init 373 = .ok (.bipush 60, 2) := by decide +kernel
theorem dX11_init_375 : decode cX11_init 375 = .ok (.newarray .int, 2) := by decide +kernel
theorem dX11_init_377 : decode cX11_init 377 = .ok (.putfield 155, 3) := by decide +kernel
theorem dX11_init_380 : decode cX11_init 380 = .ok (.return_, 1) := by decide +kernel
theorem dX11_refused_0 : decode cX11_refused 0 = .ok (.aload_n 0, 1) := by decide +kernel
theorem dX11_refused_1 : decode cX11_refused 1 = .ok (.iload_n 1, 1) := by decide +kernel
theorem dX11_refused_2 : decode cX11_refused 2 = .ok (.putfield 161, 3) := by decide +kernel
theorem dX11_refused_5 : decode cX11_refused 5 = .ok (.aload_n 0, 1) := by decide +kernel
theorem dX11_refused_6 : decode cX11_refused 6 = .ok (.iconst (-1), 1) := by decide +kernel
theorem dX11_refused_7 : decode cX11_refused 7 = .ok (.putfield 11, 3) := by decide +kernel
theorem dX11_refused_10 : decode cX11_refused 10 = .ok (.iconst (-1), 1) := by decide +kernel
theorem dX11_refused_11 : decode cX11_refused 11 = .ok (.ireturn, 1) := by decide +kernel
theorem dX11_denied_0 : decode cX11_denied 0 = .ok (.aload_n 0, 1) := by decide +kernel
theorem dX11_denied_1 : decode cX11_denied 1 = .ok (.iload_n 1, 1) := by decide +kernel
theorem dX11_denied_2 : decode cX11_denied 2 = .ok (.putfield 161, 3) := by decide +kernel
theorem dX11_denied_5 : decode cX11_denied 5 = .ok (.aload_n 0, 1) := by decide +kernel
theorem dX11_denied_6 : decode cX11_denied 6 = .ok (.iconst (-1), 1) := by decide +kernel
theorem dX11_denied_7 : decode cX11_denied 7 = .ok (.putfield 11, 3) := by decide +kernel
theorem dX11_denied_10 : decode cX11_denied 10 = .ok (.iconst 0, 1) := by decide +kernel
theorem dX11_denied_11 : decode cX11_denied 11 = .ok (.ireturn, 1) := by decide +kernel
theorem dX11_done_0 : decode cX11_done 0 = .ok (.aload_n 0, 1) := by decide +kernel
theorem dX11_done_1 : decode cX11_done 1 = .ok (.iconst 0, 1) := by decide +kernel
theorem dX11_done_2 : decode cX11_done 2 = .ok (.putfield 161, 3) := by decide +kernel
theorem dX11_done_5 : decode cX11_done 5 = .ok (.aload_n 0, 1) := by decide +kernel
theorem dX11_done_6 : decode cX11_done 6 = .ok (.iconst (-1), 1) := by decide +kernel
theorem dX11_done_7 : decode cX11_done 7 = .ok (.putfield 11, 3) := by decide +kernel
theorem dX11_done_10 : decode cX11_done 10 = .ok (.iload_n 1, 1) := by decide +kernel
theorem dX11_done_11 : decode cX11_done 11 = .ok (.ireturn, 1) := by decide +kernel
theorem dX11_in_0 : decode cX11_in 0 = .ok (.iload_n 0, 1) := by decide +kernel
theorem dX11_in_1 : decode cX11_in 1 = .ok (.iload_n 1, 1) := by decide +kernel
theorem dX11_in_2 : decode cX11_in 2 = .ok (.if_icmp .lt 12, 3) := by decide +kernel
theorem dX11_in_5 : decode cX11_in 5 = .ok (.iload_n 0, 1) := by decide +kernel
theorem dX11_in_6 : decode cX11_in 6 = .ok (.iload_n 2, 1) := by decide +kernel
theorem dX11_in_7 : decode cX11_in 7 = .ok (.if_icmp .gt 7, 3) := by decide +kernel
theorem dX11_in_10 : decode cX11_in 10 = .ok (.iconst 1, 1) := by decide +kernel
theorem dX11_in_11 : decode cX11_in 11 = .ok (.goto 4, 3) := by decide +kernel
theorem dX11_in_14 : decode cX11_in 14 = .ok (.iconst 0, 1) := by decide +kernel
theorem dX11_in_15 : decode cX11_in 15 = .ok (.ireturn, 1) := by decide +kernel
theorem dX11_act_0 : decode cX11_act 0 = .ok (.aload_n 0, 1) := by decide +kernel
theorem dX11_act_1 : decode cX11_act 1 = .ok (.getfield 164, 3) := by decide +kernel
theorem dX11_act_4 : decode cX11_act 4 = .ok (.bipush 100, 2) := by decide +kernel
theorem dX11_act_6 : decode cX11_act 6 = .ok (.if_icmp .ne 93, 3) := by decide +kernel
theorem dX11_act_9 : decode cX11_act 9 = .ok (.iconst 1, 1) := by decide +kernel
theorem dX11_act_10 : decode cX11_act 10 = .ok (.istore 7, 2) := by decide +kernel
theorem dX11_act_12 : decode cX11_act 12 = .ok (.iload 7, 2) := by decide +kernel
theorem dX11_act_14 : decode cX11_act 14 = .ok (.bipush 100, 2) := by decide +kernel
theorem dX11_act_16 : decode cX11_act 16 = .ok (.if_icmp .ge 73, 3) := by decide +kernel
theorem dX11_act_19 : decode cX11_act 19 = .ok (.aload_n 0, 1) := by decide +kernel
theorem dX11_act_20 : decode cX11_act 20 = .ok (.getfield 18, 3) := by decide +kernel
theorem dX11_act_23 : decode cX11_act 23 = .ok (.iload 7, 2) := by decide +kernel
theorem dX11_act_25 : decode cX11_act 25 = .ok (.iconst 1, 1) := by decide +kernel
theorem dX11_act_26 : decode cX11_act 26 = .ok (.isub, 1) := by decide +kernel
theorem dX11_act_27 : decode cX11_act 27 = .ok (.aload_n 0, 1) := by decide +kernel
theorem dX11_act_28 : decode cX11_act 28 = .ok (.getfield 18, 3) := by decide +kernel
theorem dX11_act_31 : decode cX11_act 31 = .ok (.iload 7, 2) := by decide +kernel
theorem dX11_act_33 : decode cX11_act 33 = .ok (.iaload, 1) := by decide +kernel
theorem dX11_act_34 : decode cX11_act 34 = .ok (.iastore, 1) := by decide +kernel
theorem dX11_act_35 : decode cX11_act 35 = .ok (.aload_n 0, 1) := by decide +kernel
theorem dX11_act_36 : decode cX11_act 36 = .ok (.getfield 22, 3) := by decide +kernel
theorem dX11_act_39 : decode cX11_act 39 = .ok (.iload 7, 2) := by decide +kernel
theorem dX11_act_41 : decode cX11_act 41 = .ok (.iconst 1, 1) := by decide +kernel
theorem dX11_act_42 : decode cX11_act 42 = .ok (.isub, 1) := by decide +kernel
theorem dX11_act_43 : decode cX11_act 43 = .ok (.aload_n 0, 1) := by decide +kernel
theorem dX11_act_44 : decode cX11_act 44 = .ok (.getfield 22, 3) := by decide +kernel
theorem dX11_act_47 : decode cX11_act 47 = .ok (.iload 7, 2) := by decide +kernel
theorem dX11_act_49 : decode cX11_act 49 = .ok (.iaload, 1) := by decide +kernel
theorem dX11_act_50 : decode cX11_act 50 = .ok (.iastore, 1) := by decide +kernel
theorem dX11_act_51 : decode cX11_act 51 = .ok (.aload_n 0, 1) := by decide +kernel
theorem dX11_act_52 : decode cX11_act 52 = .ok (.getfield 25, 3) := by decide +kernel
theorem dX11_act_55 : decode cX11_act 55 = .ok (.iload 7, 2) := by decide +kernel
theorem dX11_act_57 : decode cX11_act 57 = .ok (.iconst 1, 1) := by decide +kernel
theorem dX11_act_58 : decode cX11_act 58 = .ok (.isub, 1) := by decide +kernel
theorem dX11_act_59 : decode cX11_act 59 = .ok (.aload_n 0, 1) := by decide +kernel
theorem dX11_act_60 : decode cX11_act 60 = .ok (.getfield 25, 3) := by decide +kernel
theorem dX11_act_63 : decode cX11_act 63 = .ok (.iload 7, 2) := by decide +kernel
theorem dX11_act_65 : decode cX11_act 65 = .ok (.laload, 1) := by decide +kernel
theorem dX11_act_66 : decode cX11_act 66 = .ok (.lastore, 1) := by decide +kernel
theorem dX11_act_67 : decode cX11_act 67 = .ok (.aload_n 0, 1) := by decide +kernel
theorem dX11_act_68 : decode cX11_act 68 = .ok (.getfield 29, 3) := by decide +kernel
theorem dX11_act_71 : decode cX11_act 71 = .ok (.iload 7, 2) := by decide +kernel
theorem dX11_act_73 : decode cX11_act 73 = .ok (.iconst 1, 1) := by decide +kernel
theorem dX11_act_74 : decode cX11_act 74 = .ok (.isub, 1) := by decide +kernel
theorem dX11_act_75 : decode cX11_act 75 = .ok (.aload_n 0, 1) := by decide +kernel
theorem dX11_act_76 : decode cX11_act 76 = .ok (.getfield 29, 3) := by decide +kernel
theorem dX11_act_79 : decode cX11_act 79 = .ok (.iload 7, 2) := by decide +kernel
theorem dX11_act_81 : decode cX11_act 81 = .ok (.laload, 1) := by decide +kernel
theorem dX11_act_82 : decode cX11_act 82 = .ok (.lastore, 1) := by decide +kernel
theorem dX11_act_83 : decode cX11_act 83 = .ok (.iinc 7 1, 3) := by decide +kernel
theorem dX11_act_86 : decode cX11_act 86 = .ok (.goto (-74), 3) := by decide +kernel
theorem dX11_act_89 : decode cX11_act 89 = .ok (.aload_n 0, 1) := by decide +kernel
theorem dX11_act_90 : decode cX11_act 90 = .ok (.dup, 1) := by decide +kernel
theorem dX11_act_91 : decode cX11_act 91 = .ok (.getfield 164, 3) := by decide +kernel
theorem dX11_act_94 : decode cX11_act 94 = .ok (.iconst 1, 1) := by decide +kernel
theorem dX11_act_95 : decode cX11_act 95 = .ok (.isub, 1) := by decide +kernel
theorem dX11_act_96 : decode cX11_act 96 = .ok (.putfield 164, 3) := by decide +kernel
theorem dX11_act_99 : decode cX11_act 99 = .ok (.aload_n 0, 1) := by decide +kernel
theorem dX11_act_100 : decode cX11_act 100 = .ok (.getfield 18, 3) := by decide +kernel
theorem dX11_act_103 : decode cX11_act 103 = .ok (.aload_n 0, 1) := by decide +kernel
theorem dX11_act_104 : decode cX11_act 104 = .ok (.getfield 164, 3) := by decide +kernel
theorem dX11_act_107 : decode cX11_act 107 = .ok (.iload_n 1, 1) := by decide +kernel
theorem dX11_act_108 : decode cX11_act 108 = .ok (.iastore, 1) := by decide +kernel
theorem dX11_act_109 : decode cX11_act 109 = .ok (.aload_n 0, 1) := by decide +kernel
theorem dX11_act_110 : decode cX11_act 110 = .ok (.getfield 22, 3) := by decide +kernel
theorem dX11_act_113 : decode cX11_act 113 = .ok (.aload_n 0, 1) := by decide +kernel
theorem dX11_act_114 : decode cX11_act 114 = .ok (.getfield 164, 3) := by decide +kernel
theorem dX11_act_117 : decode cX11_act 117 = .ok (.iload_n 2, 1) := by decide +kernel
theorem dX11_act_118 : decode cX11_act 118 = .ok (.iastore, 1) := by decide +kernel
theorem dX11_act_119 : decode cX11_act 119 = .ok (.aload_n 0, 1) := by decide +kernel
theorem dX11_act_120 : decode cX11_act 120 = .ok (.getfield 25, 3) := by decide +kernel
theorem dX11_act_123 : decode cX11_act 123 = .ok (.aload_n 0, 1) := by decide +kernel
theorem dX11_act_124 : decode cX11_act 124 = .ok (.getfield 164, 3) := by decide +kernel
theorem dX11_act_127 : decode cX11_act 127 = .ok (.lload_n 3, 1) := by decide +kernel
theorem dX11_act_128 : decode cX11_act 128 = .ok (.lastore, 1) := by decide +kernel
theorem dX11_act_129 : decode cX11_act 129 = .ok (.aload_n 0, 1) := by decide +kernel
theorem dX11_act_130 : decode cX11_act 130 = .ok (.getfield 29, 3) := by decide +kernel
theorem dX11_act_133 : decode cX11_act 133 = .ok (.aload_n 0, 1) := by decide +kernel
theorem dX11_act_134 : decode cX11_act 134 = .ok (.getfield 164, 3) := by decide +kernel
theorem dX11_act_137 : decode cX11_act 137 = .ok (.lload 5, 2) := by decide +kernel
theorem dX11_act_139 : decode cX11_act 139 = .ok (.lastore, 1) := by decide +kernel
theorem dX11_act_140 : decode cX11_act 140 = .ok (.aload_n 0, 1) := by decide +kernel
theorem dX11_act_141 : decode cX11_act 141 = .ok (.dup, 1) := by decide +kernel
theorem dX11_act_142 : decode cX11_act 142 = .ok (.getfield 164, 3) := by decide +kernel
theorem dX11_act_145 : decode cX11_act 145 = .ok (.iconst 1, 1) := by decide +kernel
theorem dX11_act_146 : decode cX11_act 146 = .ok (.iadd, 1) := by decide +kernel
theorem dX11_act_147 : decode cX11_act 147 = .ok (.putfield 164, 3) := by decide +kernel
theorem dX11_act_150 : decode cX11_act 150 = .ok (.return_, 1) := by decide +kernel
theorem dX11_undo_0 : decode cX11_undo 0 = .ok (.aload_n 0, 1) := by decide +kernel
theorem dX11_undo_1 : decode cX11_undo 1 = .ok (.iconst 0, 1) := by decide +kernel
theorem dX11_undo_2 : decode cX11_undo 2 = .ok (.putfield 158, 3) := by decide +kernel
theorem dX11_undo_5 : decode cX11_undo 5 = .ok (.aload_n 0, 1) := by decide +kernel
theorem dX11_undo_6 : decode cX11_undo 6 = .ok (.getfield 164, 3) := by decide +kernel
theorem dX11_undo_9 : decode cX11_undo 9 = .ok (.ifCond .ne 5, 3) := by decide +kernel
theorem dX11_undo_12 : decode cX11_undo 12 = .ok (.iconst 0, 1) := by decide +kernel
theorem dX11_undo_13 : decode cX11_undo 13 = .ok (.ireturn, 1) := by decide +kernel
theorem dX11_undo_14 : decode cX11_undo 14 = .ok (.aload_n 0, 1) := by decide +kernel
theorem dX11_undo_15 : decode cX11_undo 15 = .ok (.dup, 1) := by decide +kernel
theorem dX11_undo_16 : decode cX11_undo 16 = .ok (.getfield 164, 3) := by decide +kernel
theorem dX11_undo_19 : decode cX11_undo 19 = .ok (.iconst 1, 1) := by decide +kernel
theorem dX11_undo_20 : decode cX11_undo 20 = .ok (.isub, 1) := by decide +kernel
theorem dX11_undo_21 : decode cX11_undo 21 = .ok (.putfield 164, 3) := by decide +kernel
theorem dX11_undo_24 : decode cX11_undo 24 = .ok (.aload_n 0, 1) := by decide +kernel
theorem dX11_undo_25 : decode cX11_undo 25 = .ok (.getfield 22, 3) := by decide +kernel
theorem dX11_undo_28 : decode cX11_undo 28 = .ok (.aload_n 0, 1) := by decide +kernel
theorem dX11_undo_29 : decode cX11_undo 29 = .ok (.getfield 164, 3) := by decide +kernel
theorem dX11_undo_32 : decode cX11_undo 32 = .ok (.iaload, 1) := by decide +kernel
theorem dX11_undo_33 : decode cX11_undo 33 = .ok (.istore_n 1, 1) := by decide +kernel
theorem dX11_undo_34 : decode cX11_undo 34 = .ok (.aload_n 0, 1) := by decide +kernel
theorem dX11_undo_35 : decode cX11_undo 35 = .ok (.getfield 18, 3) := by decide +kernel
theorem dX11_undo_38 : decode cX11_undo 38 = .ok (.aload_n 0, 1) := by decide +kernel
theorem dX11_undo_39 : decode cX11_undo 39 = .ok (.getfield 164, 3) := by decide +kernel
theorem dX11_undo_42 : decode cX11_undo 42 = .ok (.iaload, 1) := by decide +kernel
theorem dX11_undo_43 : decode cX11_undo 43 = .ok (.tableswitch 179 0 5 #[37, 88, 101, 114, 127, 146], 37) := by decide +kernel
theorem dX11_undo_80 : decode cX11_undo 80 = .ok (.aload_n 0, 1) := by decide +kernel
theorem dX11_undo_81 : decode cX11_undo 81 = .ok (.getfield 32, 3) := by decide +kernel
theorem dX11_undo_84 : decode cX11_undo 84 = .ok (.iload_n 1, 1) := by decide +kernel
theorem dX11_undo_85 : decode cX11_undo 85 = .ok (.aload_n 0, 1) := by decide +kernel
theorem dX11_undo_86 : decode cX11_undo 86 = .ok (.getfield 25, 3) := by decide +kernel
theorem dX11_undo_89 : decode cX11_undo 89 = .ok (.aload_n 0, 1) := by decide +kernel
theorem dX11_undo_90 : decode cX11_undo 90 = .ok (.getfield 164, 3) := by decide +kernel
theorem dX11_undo_93 : decode cX11_undo 93 = .ok (.laload, 1) := by decide +kernel
theorem dX11_undo_94 : decode cX11_undo 94 = .ok (.lconst 1, 1) := by decide +kernel
theorem dX11_undo_95 : decode cX11_undo 95 = .ok (.lcmp, 1) := by decide +kernel
theorem dX11_undo_96 : decode cX11_undo 96 = .ok (.ifCond .ne 7, 3) := by decide +kernel
theorem dX11_undo_99 : decode cX11_undo 99 = .ok (.iconst 1, 1) := by decide +kernel
theorem dX11_undo_100 : decode cX11_undo 100 = .ok (.goto 4, 3) := by decide +kernel
theorem dX11_undo_103 : decode cX11_undo 103 = .ok (.iconst 0, 1) := by decide +kernel
theorem dX11_undo_104 : decode cX11_undo 104 = .ok (.bastore, 1) := by decide +kernel
theorem dX11_undo_105 : decode cX11_undo 105 = .ok (.aload_n 0, 1) := by decide +kernel
theorem dX11_undo_106 : decode cX11_undo 106 = .ok (.dup, 1) := by decide +kernel
theorem dX11_undo_107 : decode cX11_undo 107 = .ok (.getfield 167, 3) := by decide +kernel
theorem dX11_undo_110 : decode cX11_undo 110 = .ok (.aload_n 0, 1) := by decide +kernel
theorem dX11_undo_111 : decode cX11_undo 111 = .ok (.getfield 32, 3) := by decide +kernel
theorem dX11_undo_114 : decode cX11_undo 114 = .ok (.iload_n 1, 1) := by decide +kernel
theorem dX11_undo_115 : decode cX11_undo 115 = .ok (.baload, 1) := by decide +kernel
theorem dX11_undo_116 : decode cX11_undo 116 = .ok (.ifCond .eq 7, 3) := by decide +kernel
theorem dX11_undo_119 : decode cX11_undo 119 = .ok (.iconst 1, 1) := by decide +kernel
theorem dX11_undo_120 : decode cX11_undo 120 = .ok (.goto 4, 3) := by decide +kernel
theorem dX11_undo_123 : decode cX11_undo 123 = .ok (.iconst (-1), 1) := by decide +kernel
theorem dX11_undo_124 : decode cX11_undo 124 = .ok (.iadd, 1) := by decide +kernel
theorem dX11_undo_125 : decode cX11_undo 125 = .ok (.putfield 167, 3) := by decide +kernel
theorem dX11_undo_128 : decode cX11_undo 128 = .ok (.goto 109, 3) := by decide +kernel
theorem dX11_undo_131 : decode cX11_undo 131 = .ok (.aload_n 0, 1) := by decide +kernel
theorem dX11_undo_132 : decode cX11_undo 132 = .ok (.dup, 1) := by decide +kernel
theorem dX11_undo_133 : decode cX11_undo 133 = .ok (.getfield 170, 3) := by decide +kernel
theorem dX11_undo_136 : decode cX11_undo 136 = .ok (.iconst 1, 1) := by decide +kernel
theorem dX11_undo_137 : decode cX11_undo 137 = .ok (.isub, 1) := by decide +kernel
theorem dX11_undo_138 : decode cX11_undo 138 = .ok (.putfield 170, 3) := by decide +kernel
theorem dX11_undo_141 : decode cX11_undo 141 = .ok (.goto 96, 3) := by decide +kernel
theorem dX11_undo_144 : decode cX11_undo 144 = .ok (.aload_n 0, 1) := by decide +kernel
theorem dX11_undo_145 : decode cX11_undo 145 = .ok (.dup, 1) := by decide +kernel
theorem dX11_undo_146 : decode cX11_undo 146 = .ok (.getfield 173, 3) := by decide +kernel
theorem dX11_undo_149 : decode cX11_undo 149 = .ok (.iconst 1, 1) := by decide +kernel
theorem dX11_undo_150 : decode cX11_undo 150 = .ok (.isub, 1) := by decide +kernel
theorem dX11_undo_151 : decode cX11_undo 151 = .ok (.putfield 173, 3) := by decide +kernel
theorem dX11_undo_154 : decode cX11_undo 154 = .ok (.goto 83, 3) := by decide +kernel
theorem dX11_undo_157 : decode cX11_undo 157 = .ok (.aload_n 0, 1) := by decide +kernel
theorem dX11_undo_158 : decode cX11_undo 158 = .ok (.getfield 83, 3) := by decide +kernel
theorem dX11_undo_161 : decode cX11_undo 161 = .ok (.iload_n 1, 1) := by decide +kernel
theorem dX11_undo_162 : decode cX11_undo 162 = .ok (.dup2, 1) := by decide +kernel
theorem dX11_undo_163 : decode cX11_undo 163 = .ok (.iaload, 1) := by decide +kernel
theorem dX11_undo_164 : decode cX11_undo 164 = .ok (.iconst 1, 1) := by decide +kernel
theorem dX11_undo_165 : decode cX11_undo 165 = .ok (.isub, 1) := by decide +kernel
theorem dX11_undo_166 : decode cX11_undo 166 = .ok (.iastore, 1) := by decide +kernel
theorem dX11_undo_167 : decode cX11_undo 167 = .ok (.goto 70, 3) := by decide +kernel
theorem dX11_undo_170 : decode cX11_undo 170 = .ok (.aload_n 0, 1) := by decide +kernel
theorem dX11_undo_171 : decode cX11_undo 171 = .ok (.getfield 86, 3) := by decide +kernel
theorem dX11_undo_174 : decode cX11_undo 174 = .ok (.iload_n 1, 1) := by decide +kernel
theorem dX11_undo_175 : decode cX11_undo 175 = .ok (.aload_n 0, 1) := by decide +kernel
theorem dX11_undo_176 : decode cX11_undo 176 = .ok (.getfield 25, 3) := by decide +kernel
theorem dX11_undo_179 : decode cX11_undo 179 = .ok (.aload_n 0, 1) := by decide +kernel
theorem dX11_undo_180 : decode cX11_undo 180 = .ok (.getfield 164, 3) := by decide +kernel
theorem dX11_undo_183 : decode cX11_undo 183 = .ok (.laload, 1) := by decide +kernel
theorem dX11_undo_184 : decode cX11_undo 184 = .ok (.l2i, 1) := by decide +kernel
theorem dX11_undo_185 : decode cX11_undo 185 = .ok (.iastore, 1) := by decide +kernel
theorem dX11_undo_186 : decode cX11_undo 186 = .ok (.goto 51, 3) := by decide +kernel
theorem dX11_undo_189 : decode cX11_undo 189 = .ok (.aload_n 0, 1) := by decide +kernel
theorem dX11_undo_190 : decode cX11_undo 190 = .ok (.getfield 92, 3) := by decide +kernel
theorem dX11_undo_193 : decode cX11_undo 193 = .ok (.iload_n 1, 1) := by decide +kernel
theorem dX11_undo_194 : decode cX11_undo 194 = .ok (.aload_n 0, 1) := by decide +kernel
theorem dX11_undo_195 : decode cX11_undo 195 = .ok (.getfield 25, 3) := by decide +kernel
theorem dX11_undo_198 : decode cX11_undo 198 = .ok (.aload_n 0, 1) := by decide +kernel
theorem dX11_undo_199 : decode cX11_undo 199 = .ok (.getfield 164, 3) := by decide +kernel
theorem dX11_undo_202 : decode cX11_undo 202 = .ok (.laload, 1) := by decide +kernel
theorem dX11_undo_203 : decode cX11_undo 203 = .ok (.lastore, 1) := by decide +kernel
theorem dX11_undo_204 : decode cX11_undo 204 = .ok (.aload_n 0, 1) := by decide +kernel
theorem dX11_undo_205 : decode cX11_undo 205 = .ok (.getfield 95, 3) := by decide +kernel
theorem dX11_undo_208 : decode cX11_undo 208 = .ok (.iload_n 1, 1) := by decide +kernel
theorem dX11_undo_209 : decode cX11_undo 209 = .ok (.aload_n 0, 1) := by decide +kernel
theorem dX11_undo_210 : decode cX11_undo 210 = .ok (.getfield 29, 3) := by decide +kernel
theorem dX11_undo_213 : decode cX11_undo 213 = .ok (.aload_n 0, 1) := by decide +kernel
theorem dX11_undo_214 : decode cX11_undo 214 = .ok (.getfield 164, 3) := by decide +kernel
theorem dX11_undo_217 : decode cX11_undo 217 = .ok (.laload, 1) := by decide +kernel
theorem dX11_undo_218 : decode cX11_undo 218 = .ok (.lastore, 1) := by decide +kernel
theorem dX11_undo_219 : decode cX11_undo 219 = .ok (.goto 18, 3) := by decide +kernel
theorem dX11_undo_222 : decode cX11_undo 222 = .ok (.aload_n 0, 1) := by decide +kernel
theorem dX11_undo_223 : decode cX11_undo 223 = .ok (.getfield 98, 3) := by decide +kernel
theorem dX11_undo_226 : decode cX11_undo 226 = .ok (.iload_n 1, 1) := by decide +kernel
theorem dX11_undo_227 : decode cX11_undo 227 = .ok (.aload_n 0, 1) := by decide +kernel
theorem dX11_undo_228 : decode cX11_undo 228 = .ok (.getfield 25, 3) := by decide +kernel
theorem dX11_undo_231 : decode cX11_undo 231 = .ok (.aload_n 0, 1) := by decide +kernel
theorem dX11_undo_232 : decode cX11_undo 232 = .ok (.getfield 164, 3) := by decide +kernel
theorem dX11_undo_235 : decode cX11_undo 235 = .ok (.laload, 1) := by decide +kernel
theorem dX11_undo_236 : decode cX11_undo 236 = .ok (.lastore, 1) := by decide +kernel
theorem dX11_undo_237 : decode cX11_undo 237 = .ok (.iconst 1, 1) := by decide +kernel
theorem dX11_undo_238 : decode cX11_undo 238 = .ok (.ireturn, 1) := by decide +kernel
theorem dX11_isDay_0 : decode cX11_isDay 0 = .ok (.iload_n 0, 1) := by decide +kernel
theorem dX11_isDay_1 : decode cX11_isDay 1 = .ok (.ifCond .lt 14, 3) := by decide +kernel
theorem dX11_isDay_4 : decode cX11_isDay 4 = .ok (.iload_n 0, 1) := by decide +kernel
theorem dX11_isDay_5 : decode cX11_isDay 5 = .ok (.sipush 10000, 3) := by decide +kernel
theorem dX11_isDay_8 : decode cX11_isDay 8 = .ok (.if_icmp .ge 7, 3) := by decide +kernel
theorem dX11_isDay_11 : decode cX11_isDay 11 = .ok (.iconst 1, 1) := by decide +kernel
theorem dX11_isDay_12 : decode cX11_isDay 12 = .ok (.goto 4, 3) := by decide +kernel
theorem dX11_isDay_15 : decode cX11_isDay 15 = .ok (.iconst 0, 1) := by decide +kernel
theorem dX11_isDay_16 : decode cX11_isDay 16 = .ok (.ireturn, 1) := by decide +kernel
theorem dX11_isWorking_0 : decode cX11_isWorking 0 = .ok (.iload_n 1, 1) := by decide +kernel
theorem dX11_isWorking_1 : decode cX11_isWorking 1 = .ok (.bipush 7, 2) := by decide +kernel
theorem dX11_isWorking_3 : decode cX11_isWorking 3 = .ok (.irem, 1) := by decide +kernel
theorem dX11_isWorking_4 : decode cX11_isWorking 4 = .ok (.iconst 5, 1) := by decide +kernel
theorem dX11_isWorking_5 : decode cX11_isWorking 5 = .ok (.if_icmp .ge 16, 3) := by decide +kernel
theorem dX11_isWorking_8 : decode cX11_isWorking 8 = .ok (.aload_n 0, 1) := by decide +kernel
theorem dX11_isWorking_9 : decode cX11_isWorking 9 = .ok (.getfield 32, 3) := by decide +kernel
theorem dX11_isWorking_12 : decode cX11_isWorking 12 = .ok (.iload_n 1, 1) := by decide +kernel
theorem dX11_isWorking_13 : decode cX11_isWorking 13 = .ok (.baload, 1) := by decide +kernel
theorem dX11_isWorking_14 : decode cX11_isWorking 14 = .ok (.ifCond .ne 7, 3) := by decide +kernel
theorem dX11_isWorking_17 : decode cX11_isWorking 17 = .ok (.iconst 1, 1) := by decide +kernel
theorem dX11_isWorking_18 : decode cX11_isWorking 18 = .ok (.goto 4, 3) := by decide +kernel
theorem dX11_isWorking_21 : decode cX11_isWorking 21 = .ok (.iconst 0, 1) := by decide +kernel
theorem dX11_isWorking_22 : decode cX11_isWorking 22 = .ok (.ireturn, 1) := by decide +kernel
theorem dX11_feast_0 : decode cX11_feast 0 = .ok (.aload_n 0, 1) := by decide +kernel
theorem dX11_feast_1 : decode cX11_feast 1 = .ok (.iconst 0, 1) := by decide +kernel
theorem dX11_feast_2 : decode cX11_feast 2 = .ok (.putfield 158, 3) := by decide +kernel
theorem dX11_feast_5 : decode cX11_feast 5 = .ok (.iload_n 1, 1) := by decide +kernel
theorem dX11_feast_6 : decode cX11_feast 6 = .ok (.invokestatic 176, 3) := by decide +kernel
theorem dX11_feast_9 : decode cX11_feast 9 = .ok (.ifCond .ne 9, 3) := by decide +kernel
theorem dX11_feast_12 : decode cX11_feast 12 = .ok (.aload_n 0, 1) := by decide +kernel
theorem dX11_feast_13 : decode cX11_feast 13 = .ok (.iconst 2, 1) := by decide +kernel
theorem dX11_feast_14 : decode cX11_feast 14 = .ok (.invokevirtual 180, 3) := by decide +kernel
theorem dX11_feast_17 : decode cX11_feast 17 = .ok (.ireturn, 1) := by decide +kernel
theorem dX11_feast_18 : decode cX11_feast 18 = .ok (.iload_n 2, 1) := by decide +kernel
theorem dX11_feast_19 : decode cX11_feast 19 = .ok (.ifCond .eq 27, 3) := by decide +kernel
theorem dX11_feast_22 : decode cX11_feast 22 = .ok (.aload_n 0, 1) := by decide +kernel
theorem dX11_feast_23 : decode cX11_feast 23 = .ok (.getfield 32, 3) := by decide +kernel
theorem dX11_feast_26 : decode cX11_feast 26 = .ok (.iload_n 1, 1) := by decide +kernel
theorem dX11_feast_27 : decode cX11_feast 27 = .ok (.baload, 1) := by decide +kernel
theorem dX11_feast_28 : decode cX11_feast 28 = .ok (.ifCond .ne 18, 3) := by decide +kernel
theorem dX11_feast_31 : decode cX11_feast 31 = .ok (.aload_n 0, 1) := by decide +kernel
theorem dX11_feast_32 : decode cX11_feast 32 = .ok (.getfield 167, 3) := by decide +kernel
theorem dX11_feast_35 : decode cX11_feast 35 = .ok (.bipush 60, 2) := by decide +kernel
theorem dX11_feast_37 : decode cX11_feast 37 = .ok (.if_icmp .ne 9, 3) := by decide +kernel
theorem dX11_feast_40 : decode cX11_feast 40 = .ok (.aload_n 0, 1) := by decide +kernel
theorem dX11_feast_41 : decode cX11_feast 41 = .ok (.iconst 3, 1) := by decide +kernel
theorem dX11_feast_42 : decode cX11_feast 42 = .ok (.invokevirtual 180, 3) := by decide +kernel
theorem dX11_feast_45 : decode cX11_feast 45 = .ok (.ireturn, 1) := by decide +kernel
theorem dX11_feast_46 : decode cX11_feast 46 = .ok (.aload_n 0, 1) := by decide +kernel
theorem dX11_feast_47 : decode cX11_feast 47 = .ok (.iconst 0, 1) := by decide +kernel
theorem dX11_feast_48 : decode cX11_feast 48 = .ok (.putfield 161, 3) := by decide +kernel
theorem dX11_feast_51 : decode cX11_feast 51 = .ok (.aload_n 0, 1) := by decide +kernel
theorem dX11_feast_52 : decode cX11_feast 52 = .ok (.iconst (-1), 1) := by decide +kernel
theorem dX11_feast_53 : decode cX11_feast 53 = .ok (.putfield 11, 3) := by decide +kernel
theorem dX11_feast_56 : decode cX11_feast 56 = .ok (.aload_n 0, 1) := by decide +kernel
theorem dX11_feast_57 : decode cX11_feast 57 = .ok (.getfield 32, 3) := by decide +kernel
theorem dX11_feast_60 : decode cX11_feast 60 = .ok (.iload_n 1, 1) := by decide +kernel
theorem dX11_feast_61 : decode cX11_feast 61 = .ok (.baload, 1) := by decide +kernel
theorem dX11_feast_62 : decode cX11_feast 62 = .ok (.iload_n 2, 1) := by decide +kernel
theorem dX11_feast_63 : decode cX11_feast 63 = .ok (.if_icmp .ne 5, 3) := by decide +kernel
theorem dX11_feast_66 : decode cX11_feast 66 = .ok (.iconst 1, 1) := by decide +kernel
theorem dX11_feast_67 : decode cX11_feast 67 = .ok (.ireturn, 1) := by decide +kernel
theorem dX11_feast_68 : decode cX11_feast 68 = .ok (.aload_n 0, 1) := by decide +kernel
theorem dX11_feast_69 : decode cX11_feast 69 = .ok (.iconst 0, 1) := by decide +kernel
theorem dX11_feast_70 : decode cX11_feast 70 = .ok (.iload_n 1, 1) := by decide +kernel
theorem dX11_feast_71 : decode cX11_feast 71 = .ok (.iload_n 2, 1) := by decide +kernel
theorem dX11_feast_72 : decode cX11_feast 72 = .ok (.ifCond .eq 7, 3) := by decide +kernel
theorem dX11_feast_75 : decode cX11_feast 75 = .ok (.lconst 0, 1) := by decide +kernel
theorem dX11_feast_76 : decode cX11_feast 76 = .ok (.goto 4, 3) := by decide +kernel
theorem dX11_feast_79 : decode cX11_feast 79 = .ok (.lconst 1, 1) := by decide +kernel
theorem dX11_feast_80 : decode cX11_feast 80 = .ok (.lconst 0, 1) := by decide +kernel
theorem dX11_feast_81 : decode cX11_feast 81 = .ok (.invokevirtual 183, 3) := by decide +kernel
theorem dX11_feast_84 : decode cX11_feast 84 = .ok (.aload_n 0, 1) := by decide +kernel
theorem dX11_feast_85 : decode cX11_feast 85 = .ok (.getfield 32, 3) := by decide +kernel
theorem dX11_feast_88 : decode cX11_feast 88 = .ok (.iload_n 1, 1) := by decide +kernel
theorem dX11_feast_89 : decode cX11_feast 89 = .ok (.iload_n 2, 1) := by decide +kernel
theorem dX11_feast_90 : decode cX11_feast 90 = .ok (.bastore, 1) := by decide +kernel
theorem dX11_feast_91 : decode cX11_feast 91 = .ok (.aload_n 0, 1) := by decide +kernel
theorem dX11_feast_92 : decode cX11_feast 92 = .ok (.dup, 1) := by decide +kernel
theorem dX11_feast_93 : decode cX11_feast 93 = .ok (.getfield 167, 3) := by decide +kernel
theorem dX11_feast_96 : decode cX11_feast 96 = .ok (.iload_n 2, 1) := by decide +kernel
theorem dX11_feast_97 : decode cX11_feast 97 = .ok (.ifCond .eq 7, 3) := by decide +kernel
theorem dX11_feast_100 : decode cX11_feast 100 = .ok (.iconst 1, 1) := by decide +kernel
theorem dX11_feast_101 : decode cX11_feast 101 = .ok (.goto 4, 3) := by decide +kernel
theorem dX11_feast_104 : decode cX11_feast 104 = .ok (.iconst (-1), 1) := by decide +kernel
theorem dX11_feast_105 : decode cX11_feast 105 = .ok (.iadd, 1) := by decide +kernel
theorem dX11_feast_106 : decode cX11_feast 106 = .ok (.putfield 167, 3) := by decide +kernel
theorem dX11_feast_109 : decode cX11_feast 109 = .ok (.iconst 1, 1) := by decide +kernel
theorem dX11_feast_110 : decode cX11_feast 110 = .ok (.ireturn, 1) := by decide +kernel
theorem dX11_working_0 : decode cX11_working 0 = .ok (.aload_n 0, 1) := by decide +kernel
theorem dX11_working_1 : decode cX11_working 1 = .ok (.iconst 0, 1) := by decide +kernel
theorem dX11_working_2 : decode cX11_working 2 = .ok (.putfield 158, 3) := by decide +kernel
theorem dX11_working_5 : decode cX11_working 5 = .ok (.iload_n 1, 1) := by decide +kernel
theorem dX11_working_6 : decode cX11_working 6 = .ok (.invokestatic 176, 3) := by decide +kernel
theorem dX11_working_9 : decode cX11_working 9 = .ok (.ifCond .eq 23, 3) := by decide +kernel
theorem dX11_working_12 : decode cX11_working 12 = .ok (.aload_n 0, 1) := by decide +kernel
theorem dX11_working_13 : decode cX11_working 13 = .ok (.aload_n 0, 1) := by decide +kernel
theorem dX11_working_14 : decode cX11_working 14 = .ok (.iload_n 1, 1) := by decide +kernel
theorem dX11_working_15 : decode cX11_working 15 = .ok (.invokevirtual 187, 3) := by decide +kernel
theorem dX11_working_18 : decode cX11_working 18 = .ok (.ifCond .eq 7, 3) := by decide +kernel
theorem dX11_working_21 : decode cX11_working 21 = .ok (.iconst 1, 1) := by decide +kernel
theorem dX11_working_22 : decode cX11_working 22 = .ok (.goto 4, 3) := by decide +kernel
theorem dX11_working_25 : decode cX11_working 25 = .ok (.iconst 0, 1) := by decide +kernel
theorem dX11_working_26 : decode cX11_working 26 = .ok (.invokevirtual 190, 3) := by decide +kernel
theorem dX11_working_29 : decode cX11_working 29 = .ok (.goto 8, 3) := by decide +kernel
theorem dX11_working_32 : decode cX11_working 32 = .ok (.aload_n 0, 1) := by decide +kernel
theorem dX11_working_33 : decode cX11_working 33 = .ok (.iconst 2, 1) := by decide +kernel
theorem dX11_working_34 : decode cX11_working 34 = .ok (.invokevirtual 194, 3) := by decide +kernel
theorem dX11_working_37 : decode cX11_working 37 = .ok (.ireturn, 1) := by decide +kernel
theorem dX11_spanOf_0 : decode cX11_spanOf 0 = .ok (.iload_n 1, 1) := by decide +kernel
theorem dX11_spanOf_1 : decode cX11_spanOf 1 = .ok (.sipush 10000, 3) := by decide +kernel
theorem dX11_spanOf_4 : decode cX11_spanOf 4 = .ok (.if_icmp .lt 7, 3) := by decide +kernel
theorem dX11_spanOf_7 : decode cX11_spanOf 7 = .ok (.sipush 10000, 3) := by decide +kernel
theorem dX11_spanOf_10 : decode cX11_spanOf 10 = .ok (.ireturn, 1) := by decide +kernel
theorem dX11_spanOf_11 : decode cX11_spanOf 11 = .ok (.iload_n 1, 1) := by decide +kernel
theorem dX11_spanOf_12 : decode cX11_spanOf 12 = .ok (.istore 4, 2) := by decide +kernel
theorem dX11_spanOf_14 : decode cX11_spanOf 14 = .ok (.iload_n 3, 1) := by decide +kernel
theorem dX11_spanOf_15 : decode cX11_spanOf 15 = .ok (.ifCond .ne 41, 3) := by decide +kernel
theorem dX11_spanOf_18 : decode cX11_spanOf 18 = .ok (.iload 4, 2) := by decide +kernel
theorem dX11_spanOf_20 : decode cX11_spanOf 20 = .ok (.iload_n 2, 1) := by decide +kernel
theorem dX11_spanOf_21 : decode cX11_spanOf 21 = .ok (.iadd, 1) := by decide +kernel
theorem dX11_spanOf_22 : decode cX11_spanOf 22 = .ok (.istore 4, 2) := by decide +kernel
theorem dX11_spanOf_24 : decode cX11_spanOf 24 = .ok (.iload 4, 2) := by decide +kernel
theorem dX11_spanOf_26 : decode cX11_spanOf 26 = .ok (.sipush 10000, 3) := by decide +kernel
theorem dX11_spanOf_29 : decode cX11_spanOf 29 = .ok (.if_icmp .ge 18, 3) := by decide +kernel
theorem dX11_spanOf_32 : decode cX11_spanOf 32 = .ok (.aload_n 0, 1) := by decide +kernel
theorem dX11_spanOf_33 : decode cX11_spanOf 33 = .ok (.iload 4, 2) := by decide +kernel
theorem dX11_spanOf_35 : decode cX11_spanOf 35 = .ok (.invokevirtual 187, 3) := by decide +kernel
theorem dX11_spanOf_38 : decode cX11_spanOf 38 = .ok (.ifCond .ne 9, 3) := by decide +kernel
theorem dX11_spanOf_41 : decode cX11_spanOf 41 = .ok (.iinc 4 1, 3) := by decide +kernel
theorem dX11_spanOf_44 : decode cX11_spanOf 44 = .ok (.goto (-20), 3) := by decide +kernel
theorem dX11_spanOf_47 : decode cX11_spanOf 47 = .ok (.iload 4, 2) := by decide +kernel
theorem dX11_spanOf_49 : decode cX11_spanOf 49 = .ok (.sipush 10000, 3) := by decide +kernel
theorem dX11_spanOf_52 : decode cX11_spanOf 52 = .ok (.invokestatic 197, 3) := by decide +kernel
theorem dX11_spanOf_55 : decode cX11_spanOf 55 = .ok (.ireturn, 1) := by decide +kernel
theorem dX11_spanOf_56 : decode cX11_spanOf 56 = .ok (.iload_n 2, 1) := by decide +kernel
theorem dX11_spanOf_57 : decode cX11_spanOf 57 = .ok (.istore 5, 2) := by decide +kernel
theorem dX11_spanOf_59 : decode cX11_spanOf 59 = .ok (.iload 5, 2) := by decide +kernel
theorem dX11_spanOf_61 : decode cX11_spanOf 61 = .ok (.ifCond .le 43, 3) := by decide +kernel
theorem dX11_spanOf_64 : decode cX11_spanOf 64 = .ok (.iload 4, 2) := by decide +kernel
theorem dX11_spanOf_66 : decode cX11_spanOf 66 = .ok (.sipush 10000, 3) := by decide +kernel
theorem dX11_spanOf_69 : decode cX11_spanOf 69 = .ok (.if_icmp .ge 35, 3) := by decide +kernel
theorem dX11_spanOf_72 : decode cX11_spanOf 72 = .ok (.iinc 4 1, 3) := by decide +kernel
theorem dX11_spanOf_75 : decode cX11_spanOf 75 = .ok (.iload 4, 2) := by decide +kernel
theorem dX11_spanOf_77 : decode cX11_spanOf 77 = .ok (.sipush 10000, 3) := by decide +kernel
theorem dX11_spanOf_80 : decode cX11_spanOf 80 = .ok (.if_icmp .ge 18, 3) := by decide +kernel
theorem dX11_spanOf_83 : decode cX11_spanOf 83 = .ok (.aload_n 0, 1) := by decide +kernel
theorem dX11_spanOf_84 : decode cX11_spanOf 84 = .ok (.iload 4, 2) := by decide +kernel
theorem dX11_spanOf_86 : decode cX11_spanOf 86 = .ok (.invokevirtual 187, 3) := by decide +kernel
theorem dX11_spanOf_89 : decode cX11_spanOf 89 = .ok (.ifCond .ne 9, 3) := by decide +kernel
theorem dX11_spanOf_92 : decode cX11_spanOf 92 = .ok (.iinc 4 1, 3) := by decide +kernel
theorem dX11_spanOf_95 : decode cX11_spanOf 95 = .ok (.goto (-20), 3) := by decide +kernel
theorem dX11_spanOf_98 : decode cX11_spanOf 98 = .ok (.iinc 5 (-1), 3) := by decide +kernel
theorem dX11_spanOf_101 : decode cX11_spanOf 101 = .ok (.goto (-42), 3) := by decide +kernel
theorem dX11_spanOf_104 : decode cX11_spanOf 104 = .ok (.iload 4, 2) := by decide +kernel
theorem dX11_spanOf_106 : decode cX11_spanOf 106 = .ok (.sipush 10000, 3) := by decide +kernel
theorem dX11_spanOf_109 : decode cX11_spanOf 109 = .ok (.invokestatic 197, 3) := by decide +kernel
theorem dX11_spanOf_112 : decode cX11_spanOf 112 = .ok (.ireturn, 1) := by decide +kernel
theorem dX11_after_0 : decode cX11_after 0 = .ok (.aload_n 0, 1) := by decide +kernel
theorem dX11_after_1 : decode cX11_after 1 = .ok (.iconst 0, 1) := by decide +kernel
theorem dX11_after_2 : decode cX11_after 2 = .ok (.putfield 158, 3) := by decide +kernel
theorem dX11_after_5 : decode cX11_after 5 = .ok (.iload_n 1, 1) := by decide +kernel
theorem dX11_after_6 : decode cX11_after 6 = .ok (.invokestatic 176, 3) := by decide +kernel
theorem dX11_after_9 : decode cX11_after 9 = .ok (.ifCond .eq 28, 3) := by decide +kernel
theorem dX11_after_12 : decode cX11_after 12 = .ok (.iload_n 2, 1) := by decide +kernel
theorem dX11_after_13 : decode cX11_after 13 = .ok (.iconst 0, 1) := by decide +kernel
theorem dX11_after_14 : decode cX11_after 14 = .ok (.sipush 9999, 3) := by decide +kernel
theorem dX11_after_17 : decode cX11_after 17 = .ok (.invokestatic 203, 3) := by decide +kernel
theorem dX11_after_20 : decode cX11_after 20 = .ok (.ifCond .eq 17, 3) := by decide +kernel
theorem dX11_after_23 : decode cX11_after 23 = .ok (.aload_n 0, 1) := by decide +kernel
theorem dX11_after_24 : decode cX11_after 24 = .ok (.aload_n 0, 1) := by decide +kernel
theorem dX11_after_25 : decode cX11_after 25 = .ok (.iload_n 1, 1) := by decide +kernel
theorem dX11_after_26 : decode cX11_after 26 = .ok (.iload_n 2, 1) := by decide +kernel
theorem dX11_after_27 : decode cX11_after 27 = .ok (.iload_n 3, 1) := by decide +kernel
theorem dX11_after_28 : decode cX11_after 28 = .ok (.invokevirtual 207, 3) := by decide +kernel
theorem dX11_after_31 : decode cX11_after 31 = .ok (.invokevirtual 190, 3) := by decide +kernel
theorem dX11_after_34 : decode cX11_after 34 = .ok (.goto 8, 3) := by decide +kernel
theorem dX11_after_37 : decode cX11_after 37 = .ok (.aload_n 0, 1) := by decide +kernel
theorem dX11_after_38 : decode cX11_after 38 = .ok (.iconst 2, 1) := by decide +kernel
theorem dX11_after_39 : decode cX11_after 39 = .ok (.invokevirtual 194, 3) := by decide +kernel
theorem dX11_after_42 : decode cX11_after 42 = .ok (.ireturn, 1) := by decide +kernel
theorem dX11_stop_0 : decode cX11_stop 0 = .ok (.aload_n 0, 1) := by decide +kernel
theorem dX11_stop_1 : decode cX11_stop 1 = .ok (.getfield 39, 3) := by decide +kernel
theorem dX11_stop_4 : decode cX11_stop 4 = .ok (.iload_n 1, 1) := by decide +kernel
theorem dX11_stop_5 : decode cX11_stop 5 = .ok (.putfield 211, 3) := by decide +kernel
theorem dX11_stop_8 : decode cX11_stop 8 = .ok (.aload_n 0, 1) := by decide +kernel
theorem dX11_stop_9 : decode cX11_stop 9 = .ok (.getfield 39, 3) := by decide +kernel
theorem dX11_stop_12 : decode cX11_stop 12 = .ok (.iload_n 2, 1) := by decide +kernel
theorem dX11_stop_13 : decode cX11_stop 13 = .ok (.putfield 213, 3) := by decide +kernel
theorem dX11_stop_16 : decode cX11_stop 16 = .ok (.aload_n 0, 1) := by decide +kernel
theorem dX11_stop_17 : decode cX11_stop 17 = .ok (.getfield 39, 3) := by decide +kernel
theorem dX11_stop_20 : decode cX11_stop 20 = .ok (.areturn, 1) := by decide +kernel
theorem dX11_byteAt_0 : decode cX11_byteAt 0 = .ok (.iload_n 1, 1) := by decide +kernel
theorem dX11_byteAt_1 : decode cX11_byteAt 1 = .ok (.aload_n 0, 1) := by decide +kernel
theorem dX11_byteAt_2 : decode cX11_byteAt 2 = .ok (.getfield 216, 3) := by decide +kernel
theorem dX11_byteAt_5 : decode cX11_byteAt 5 = .ok (.if_icmp .ge 16, 3) := by decide +kernel
theorem dX11_byteAt_8 : decode cX11_byteAt 8 = .ok (.aload_n 0, 1) := by decide +kernel
theorem dX11_byteAt_9 : decode cX11_byteAt 9 = .ok (.getfield 43, 3) := by decide +kernel
theorem dX11_byteAt_12 : decode cX11_byteAt 12 = .ok (.iload_n 1, 1) := by decide +kernel
theorem dX11_byteAt_13 : decode cX11_byteAt 13 = .ok (.baload, 1) := by decide +kernel
theorem dX11_byteAt_14 : decode cX11_byteAt 14 = .ok (.sipush 255, 3) := by decide +kernel
theorem dX11_byteAt_17 : decode cX11_byteAt 17 = .ok (.iand, 1) := by decide +kernel
theorem dX11_byteAt_18 : decode cX11_byteAt 18 = .ok (.goto 4, 3) := by decide +kernel
theorem dX11_byteAt_21 : decode cX11_byteAt 21 = .ok (.iconst (-1), 1) := by decide +kernel
theorem dX11_byteAt_22 : decode cX11_byteAt 22 = .ok (.ireturn, 1) := by decide +kernel
theorem dX11_isLetter_0 : decode cX11_isLetter 0 = .ok (.iload_n 0, 1) := by decide +kernel
theorem dX11_isLetter_1 : decode cX11_isLetter 1 = .ok (.bipush 97, 2) := by decide +kernel
theorem dX11_isLetter_3 : decode cX11_isLetter 3 = .ok (.if_icmp .lt 13, 3) := by decide +kernel
theorem dX11_isLetter_6 : decode cX11_isLetter 6 = .ok (.iload_n 0, 1) := by decide +kernel
theorem dX11_isLetter_7 : decode cX11_isLetter 7 = .ok (.bipush 122, 2) := by decide +kernel
theorem dX11_isLetter_9 : decode cX11_isLetter 9 = .ok (.if_icmp .gt 7, 3) := by decide +kernel
theorem dX11_isLetter_12 : decode cX11_isLetter 12 = .ok (.iconst 1, 1) := by decide +kernel
theorem dX11_isLetter_13 : decode cX11_isLetter 13 = .ok (.goto 4, 3) := by decide +kernel
theorem dX11_isLetter_16 : decode cX11_isLetter 16 = .ok (.iconst 0, 1) := by decide +kernel
theorem dX11_isLetter_17 : decode cX11_isLetter 17 = .ok (.ireturn, 1) := by decide +kernel
theorem dX11_isDigit_0 : decode cX11_isDigit 0 = .ok (.iload_n 0, 1) := by decide +kernel
theorem dX11_isDigit_1 : decode cX11_isDigit 1 = .ok (.bipush 48, 2) := by decide +kernel
theorem dX11_isDigit_3 : decode cX11_isDigit 3 = .ok (.if_icmp .lt 13, 3) := by decide +kernel
theorem dX11_isDigit_6 : decode cX11_isDigit 6 = .ok (.iload_n 0, 1) := by decide +kernel
theorem dX11_isDigit_7 : decode cX11_isDigit 7 = .ok (.bipush 57, 2) := by decide +kernel
theorem dX11_isDigit_9 : decode cX11_isDigit 9 = .ok (.if_icmp .gt 7, 3) := by decide +kernel
theorem dX11_isDigit_12 : decode cX11_isDigit 12 = .ok (.iconst 1, 1) := by decide +kernel
theorem dX11_isDigit_13 : decode cX11_isDigit 13 = .ok (.goto 4, 3) := by decide +kernel
theorem dX11_isDigit_16 : decode cX11_isDigit 16 = .ok (.iconst 0, 1) := by decide +kernel
theorem dX11_isDigit_17 : decode cX11_isDigit 17 = .ok (.ireturn, 1) := by decide +kernel
theorem dX11_next_0 : decode cX11_next 0 = .ok (.aload_n 0, 1) := by decide +kernel
theorem dX11_next_1 : decode cX11_next 1 = .ok (.aload_n 0, 1) := by decide +kernel
theorem dX11_next_2 : decode cX11_next 2 = .ok (.getfield 219, 3) := by decide +kernel
theorem dX11_next_5 : decode cX11_next 5 = .ok (.invokevirtual 222, 3) := by decide +kernel
theorem dX11_next_8 : decode cX11_next 8 = .ok (.bipush 32, 2) := by decide +kernel
theorem dX11_next_10 : decode cX11_next 10 = .ok (.if_icmp .eq 16, 3) := by decide +kernel
theorem dX11_next_13 : decode cX11_next 13 = .ok (.aload_n 0, 1) := by decide +kernel
theorem dX11_next_14 : decode cX11_next 14 = .ok (.aload_n 0, 1) := by decide +kernel
theorem dX11_next_15 : decode cX11_next 15 = .ok (.getfield 219, 3) := by decide +kernel
theorem dX11_next_18 : decode cX11_next 18 = .ok (.invokevirtual 222, 3) := by decide +kernel
theorem dX11_next_21 : decode cX11_next 21 = .ok (.bipush 10, 2) := by decide +kernel
theorem dX11_next_23 : decode cX11_next 23 = .ok (.if_icmp .ne 16, 3) := by decide +kernel
theorem dX11_next_26 : decode cX11_next 26 = .ok (.aload_n 0, 1) := by decide +kernel
theorem dX11_next_27 : decode cX11_next 27 = .ok (.dup, 1) := by decide +kernel
theorem dX11_next_28 : decode cX11_next 28 = .ok (.getfield 219, 3) := by decide +kernel
theorem dX11_next_31 : decode cX11_next 31 = .ok (.iconst 1, 1) := by decide +kernel
theorem dX11_next_32 : decode cX11_next 32 = .ok (.iadd, 1) := by decide +kernel
theorem dX11_next_33 : decode cX11_next 33 = .ok (.putfield 219, 3) := by decide +kernel
theorem dX11_next_36 : decode cX11_next 36 = .ok (.goto (-36), 3) := by decide +kernel
theorem dX11_next_39 : decode cX11_next 39 = .ok (.aload_n 0, 1) := by decide +kernel
theorem dX11_next_40 : decode cX11_next 40 = .ok (.aload_n 0, 1) := by decide +kernel
theorem dX11_next_41 : decode cX11_next 41 = .ok (.getfield 219, 3) := by decide +kernel
theorem dX11_next_44 : decode cX11_next 44 = .ok (.putfield 225, 3) := by decide +kernel
theorem dX11_next_47 : decode cX11_next 47 = .ok (.aload_n 0, 1) := by decide +kernel
theorem dX11_next_48 : decode cX11_next 48 = .ok (.iconst 0, 1) := by decide +kernel
theorem dX11_next_49 : decode cX11_next 49 = .ok (.putfield 226, 3) := by decide +kernel
theorem dX11_next_52 : decode cX11_next 52 = .ok (.aload_n 0, 1) := by decide +kernel
theorem dX11_next_53 : decode cX11_next 53 = .ok (.iconst 0, 1) := by decide +kernel
theorem dX11_next_54 : decode cX11_next 54 = .ok (.putfield 229, 3) := by decide +kernel
theorem dX11_next_57 : decode cX11_next 57 = .ok (.aload_n 0, 1) := by decide +kernel
theorem dX11_next_58 : decode cX11_next 58 = .ok (.aload_n 0, 1) := by decide +kernel
theorem dX11_next_59 : decode cX11_next 59 = .ok (.getfield 219, 3) := by decide +kernel
theorem dX11_next_62 : decode cX11_next 62 = .ok (.invokevirtual 222, 3) := by decide +kernel
theorem dX11_next_65 : decode cX11_next 65 = .ok (.istore_n 1, 1) := by decide +kernel
theorem dX11_next_66 : decode cX11_next 66 = .ok (.iconst 0, 1) := by decide +kernel
theorem dX11_next_67 : decode cX11_next 67 = .ok (.istore_n 2, 1) := by decide +kernel
theorem dX11_next_68 : decode cX11_next 68 = .ok (.aload_n 0, 1) := by decide +kernel
theorem dX11_next_69 : decode cX11_next 69 = .ok (.lconst 0, 1) := by decide +kernel
theorem dX11_next_70 : decode cX11_next 70 = .ok (.putfield 232, 3) := by decide +kernel
theorem dX11_next_73 : decode cX11_next 73 = .ok (.iload_n 1, 1) := by decide +kernel
theorem dX11_next_74 : decode cX11_next 74 = .ok (.iconst (-1), 1) := by decide +kernel
theorem dX11_next_75 : decode cX11_next 75 = .ok (.if_icmp .ne 11, 3) := by decide +kernel
theorem dX11_next_78 : decode cX11_next 78 = .ok (.aload_n 0, 1) := by decide +kernel
theorem dX11_next_79 : decode cX11_next 79 = .ok (.iconst 1, 1) := by decide +kernel
theorem dX11_next_80 : decode cX11_next 80 = .ok (.putfield 226, 3) := by decide +kernel
theorem dX11_next_83 : decode cX11_next 83 = .ok (.goto 264, 3) := by decide +kernel
theorem dX11_next_86 : decode cX11_next 86 = .ok (.iload_n 1, 1) := by decide +kernel
theorem dX11_next_87 : decode cX11_next 87 = .ok (.invokestatic 236, 3) := by decide +kernel
theorem dX11_next_90 : decode cX11_next 90 = .ok (.ifCond .eq 84, 3) := by decide +kernel
theorem dX11_next_93 : decode cX11_next 93 = .ok (.aload_n 0, 1) := by decide +kernel
theorem dX11_next_94 : decode cX11_next 94 = .ok (.aload_n 0, 1) := by decide +kernel
theorem dX11_next_95 : decode cX11_next 95 = .ok (.getfield 219, 3) := by decide +kernel
theorem dX11_next_98 : decode cX11_next 98 = .ok (.invokevirtual 222, 3) := by decide +kernel
theorem dX11_next_101 : decode cX11_next 101 = .ok (.invokestatic 236, 3) := by decide +kernel
theorem dX11_next_104 : decode cX11_next 104 = .ok (.ifCond .eq 52, 3) := by decide +kernel
theorem dX11_next_107 : decode cX11_next 107 = .ok (.iload_n 2, 1) := by decide +kernel
theorem dX11_next_108 : decode cX11_next 108 = .ok (.bipush 8, 2) := by decide +kernel
theorem dX11_next_110 : decode cX11_next 110 = .ok (.if_icmp .ge 30, 3) := by decide +kernel
theorem dX11_next_113 : decode cX11_next 113 = .ok (.aload_n 0, 1) := by decide +kernel
theorem dX11_next_114 : decode cX11_next 114 = .ok (.ldc2_w 239, 3) := by decide +kernel
theorem dX11_next_117 : decode cX11_next 117 = .ok (.aload_n 0, 1) := by decide +kernel
theorem dX11_next_118 : decode cX11_next 118 = .ok (.getfield 232, 3) := by decide +kernel
theorem dX11_next_121 : decode cX11_next 121 = .ok (.lmul, 1) := by decide +kernel
theorem dX11_next_122 : decode cX11_next 122 = .ok (.aload_n 0, 1) := by decide +kernel
theorem dX11_next_123 : decode cX11_next 123 = .ok (.aload_n 0, 1) := by decide +kernel
theorem dX11_next_124 : decode cX11_next 124 = .ok (.getfield 219, 3) := by decide +kernel
theorem dX11_next_127 : decode cX11_next 127 = .ok (.invokevirtual 222, 3) := by decide +kernel
theorem dX11_next_130 : decode cX11_next 130 = .ok (.bipush 97, 2) := by decide +kernel
theorem dX11_next_132 : decode cX11_next 132 = .ok (.isub, 1) := by decide +kernel
theorem dX11_next_133 : decode cX11_next 133 = .ok (.iconst 1, 1) := by decide +kernel
theorem dX11_next_134 : decode cX11_next 134 = .ok (.iadd, 1) := by decide +kernel
theorem dX11_next_135 : decode cX11_next 135 = .ok (.i2l, 1) := by decide +kernel
theorem dX11_next_136 : decode cX11_next 136 = .ok (.ladd, 1) := by decide +kernel
theorem dX11_next_137 : decode cX11_next 137 = .ok (.putfield 232, 3) := by decide +kernel
theorem dX11_next_140 : decode cX11_next 140 = .ok (.iinc 2 1, 3) := by decide +kernel
theorem dX11_next_143 : decode cX11_next 143 = .ok (.aload_n 0, 1) := by decide +kernel
theorem dX11_next_144 : decode cX11_next 144 = .ok (.dup, 1) := by decide +kernel
theorem dX11_next_145 : decode cX11_next 145 = .ok (.getfield 219, 3) := by decide +kernel
theorem dX11_next_148 : decode cX11_next 148 = .ok (.iconst 1, 1) := by decide +kernel
theorem dX11_next_149 : decode cX11_next 149 = .ok (.iadd, 1) := by decide +kernel
theorem dX11_next_150 : decode cX11_next 150 = .ok (.putfield 219, 3) := by decide +kernel
theorem dX11_next_153 : decode cX11_next 153 = .ok (.goto (-60), 3) := by decide +kernel
theorem dX11_next_156 : decode cX11_next 156 = .ok (.aload_n 0, 1) := by decide +kernel
theorem dX11_next_157 : decode cX11_next 157 = .ok (.iload_n 2, 1) := by decide +kernel
theorem dX11_next_158 : decode cX11_next 158 = .ok (.bipush 8, 2) := by decide +kernel
theorem dX11_next_160 : decode cX11_next 160 = .ok (.if_icmp .le 7, 3) := by decide +kernel
theorem dX11_next_163 : decode cX11_next 163 = .ok (.iconst 0, 1) := by decide +kernel
theorem dX11_next_164 : decode cX11_next 164 = .ok (.goto 4, 3) := by decide +kernel
theorem dX11_next_167 : decode cX11_next 167 = .ok (.iconst 2, 1) := by decide +kernel
theorem dX11_next_168 : decode cX11_next 168 = .ok (.putfield 226, 3) := by decide +kernel
theorem dX11_next_171 : decode cX11_next 171 = .ok (.goto 176, 3) := by decide +kernel
theorem dX11_next_174 : decode cX11_next 174 = .ok (.iload_n 1, 1) := by decide +kernel
theorem dX11_next_175 : decode cX11_next 175 = .ok (.invokestatic 241, 3) := by decide +kernel
theorem dX11_next_178 : decode cX11_next 178 = .ok (.ifCond .eq 80, 3) := by decide +kernel
theorem dX11_next_181 : decode cX11_next 181 = .ok (.aload_n 0, 1) := by decide +kernel
theorem dX11_next_182 : decode cX11_next 182 = .ok (.aload_n 0, 1) := by decide +kernel
theorem dX11_next_183 : decode cX11_next 183 = .ok (.getfield 219, 3) := by decide +kernel
theorem dX11_next_186 : decode cX11_next 186 = .ok (.invokevirtual 222, 3) := by decide +kernel
theorem dX11_next_189 : decode cX11_next 189 = .ok (.invokestatic 241, 3) := by decide +kernel
theorem dX11_next_192 : decode cX11_next 192 = .ok (.ifCond .eq 49, 3) := by decide +kernel
theorem dX11_next_195 : decode cX11_next 195 = .ok (.iload_n 2, 1) := by decide +kernel
theorem dX11_next_196 : decode cX11_next 196 = .ok (.iconst 4, 1) := by decide +kernel
theorem dX11_next_197 : decode cX11_next 197 = .ok (.if_icmp .ge 28, 3) := by decide +kernel
theorem dX11_next_200 : decode cX11_next 200 = .ok (.aload_n 0, 1) := by decide +kernel
theorem dX11_next_201 : decode cX11_next 201 = .ok (.ldc2_w 244, 3) := by decide +kernel
theorem dX11_next_204 : decode cX11_next 204 = .ok (.aload_n 0, 1) := by decide +kernel
theorem dX11_next_205 : decode cX11_next 205 = .ok (.getfield 232, 3) := by decide +kernel
theorem dX11_next_208 : decode cX11_next 208 = .ok (.lmul, 1) := by decide +kernel
theorem dX11_next_209 : decode cX11_next 209 = .ok (.aload_n 0, 1) := by decide +kernel
theorem dX11_next_210 : decode cX11_next 210 = .ok (.aload_n 0, 1) := by decide +kernel
theorem dX11_next_211 : decode cX11_next 211 = .ok (.getfield 219, 3) := by decide +kernel
theorem dX11_next_214 : decode cX11_next 214 = .ok (.invokevirtual 222, 3) := by decide +kernel
theorem dX11_next_217 : decode cX11_next 217 = .ok (.bipush 48, 2) := by decide +kernel
theorem dX11_next_219 : decode cX11_next 219 = .ok (.isub, 1) := by decide +kernel
theorem dX11_next_220 : decode cX11_next 220 = .ok (.i2l, 1) := by decide +kernel
theorem dX11_next_221 : decode cX11_next 221 = .ok (.ladd, 1) := by decide +kernel
theorem dX11_next_222 : decode cX11_next 222 = .ok (.putfield 232, 3) := by decide +kernel
theorem dX11_next_225 : decode cX11_next 225 = .ok (.iinc 2 1, 3) := by decide +kernel
theorem dX11_next_228 : decode cX11_next 228 = .ok (.aload_n 0, 1) := by decide +kernel
theorem dX11_next_229 : decode cX11_next 229 = .ok (.dup, 1) := by decide +kernel
theorem dX11_next_230 : decode cX11_next 230 = .ok (.getfield 219, 3) := by decide +kernel
theorem dX11_next_233 : decode cX11_next 233 = .ok (.iconst 1, 1) := by decide +kernel
theorem dX11_next_234 : decode cX11_next 234 = .ok (.iadd, 1) := by decide +kernel
theorem dX11_next_235 : decode cX11_next 235 = .ok (.putfield 219, 3) := by decide +kernel
theorem dX11_next_238 : decode cX11_next 238 = .ok (.goto (-57), 3) := by decide +kernel
theorem dX11_next_241 : decode cX11_next 241 = .ok (.aload_n 0, 1) := by decide +kernel
theorem dX11_next_242 : decode cX11_next 242 = .ok (.iload_n 2, 1) := by decide +kernel
theorem dX11_next_243 : decode cX11_next 243 = .ok (.iconst 4, 1) := by decide +kernel
theorem dX11_next_244 : decode cX11_next 244 = .ok (.if_icmp .le 7, 3) := by decide +kernel
theorem dX11_next_247 : decode cX11_next 247 = .ok (.iconst 0, 1) := by decide +kernel
theorem dX11_next_248 : decode cX11_next 248 = .ok (.goto 4, 3) := by decide +kernel
theorem dX11_next_251 : decode cX11_next 251 = .ok (.iconst 3, 1) := by decide +kernel
theorem dX11_next_252 : decode cX11_next 252 = .ok (.putfield 226, 3) := by decide +kernel
theorem dX11_next_255 : decode cX11_next 255 = .ok (.goto 92, 3) := by decide +kernel
theorem dX11_next_258 : decode cX11_next 258 = .ok (.iload_n 1, 1) := by decide +kernel
theorem dX11_next_259 : decode cX11_next 259 = .ok (.bipush 46, 2) := by decide +kernel
theorem dX11_next_261 : decode cX11_next 261 = .ok (.if_icmp .ne 36, 3) := by decide +kernel
theorem dX11_next_264 : decode cX11_next 264 = .ok (.aload_n 0, 1) := by decide +kernel
theorem dX11_next_265 : decode cX11_next 265 = .ok (.aload_n 0, 1) := by decide +kernel
theorem dX11_next_266 : decode cX11_next 266 = .ok (.getfield 219, 3) := by decide +kernel
theorem dX11_next_269 : decode cX11_next 269 = .ok (.iconst 1, 1) := by decide +kernel
theorem dX11_next_270 : decode cX11_next 270 = .ok (.iadd, 1) := by decide +kernel
theorem dX11_next_271 : decode cX11_next 271 = .ok (.invokevirtual 222, 3) := by decide +kernel
theorem dX11_next_274 : decode cX11_next 274 = .ok (.bipush 46, 2) := by decide +kernel
theorem dX11_next_276 : decode cX11_next 276 = .ok (.if_icmp .ne 21, 3) := by decide +kernel
theorem dX11_next_279 : decode cX11_next 279 = .ok (.aload_n 0, 1) := by decide +kernel
theorem dX11_next_280 : decode cX11_next 280 = .ok (.iconst 4, 1) := by decide +kernel
theorem dX11_next_281 : decode cX11_next 281 = .ok (.putfield 226, 3) := by decide +kernel
theorem dX11_next_284 : decode cX11_next 284 = .ok (.aload_n 0, 1) := by decide +kernel
theorem dX11_next_285 : decode cX11_next 285 = .ok (.dup, 1) := by decide +kernel
theorem dX11_next_286 : decode cX11_next 286 = .ok (.getfield 219, 3) := by decide +kernel
theorem dX11_next_289 : decode cX11_next 289 = .ok (.iconst 2, 1) := by decide +kernel
theorem dX11_next_290 : decode cX11_next 290 = .ok (.iadd, 1) := by decide +kernel
theorem dX11_next_291 : decode cX11_next 291 = .ok (.putfield 219, 3) := by decide +kernel
theorem dX11_next_294 : decode cX11_next 294 = .ok (.goto 53, 3) := by decide +kernel
theorem dX11_next_297 : decode cX11_next 297 = .ok (.iload_n 1, 1) := by decide +kernel
theorem dX11_next_298 : decode cX11_next 298 = .ok (.bipush 58, 2) := by decide +kernel
theorem dX11_next_300 : decode cX11_next 300 = .ok (.if_icmp .eq 27, 3) := by decide +kernel
theorem dX11_next_303 : decode cX11_next 303 = .ok (.iload_n 1, 1) := by decide +kernel
theorem dX11_next_304 : decode cX11_next 304 = .ok (.bipush 59, 2) := by decide +kernel
theorem dX11_next_306 : decode cX11_next 306 = .ok (.if_icmp .eq 21, 3) := by decide +kernel
theorem dX11_next_309 : decode cX11_next 309 = .ok (.iload_n 1, 1) := by decide +kernel
theorem dX11_next_310 : decode cX11_next 310 = .ok (.bipush 63, 2) := by decide +kernel
theorem dX11_next_312 : decode cX11_next 312 = .ok (.if_icmp .eq 15, 3) := by decide +kernel
theorem dX11_next_315 : decode cX11_next 315 = .ok (.iload_n 1, 1) := by decide +kernel
theorem dX11_next_316 : decode cX11_next 316 = .ok (.bipush 47, 2) := by decide +kernel
theorem dX11_next_318 : decode cX11_next 318 = .ok (.if_icmp .eq 9, 3) := by decide +kernel
theorem dX11_next_321 : decode cX11_next 321 = .ok (.iload_n 1, 1) := by decide +kernel
theorem dX11_next_322 : decode cX11_next 322 = .ok (.bipush 61, 2) := by decide +kernel
theorem dX11_next_324 : decode cX11_next 324 = .ok (.if_icmp .ne 23, 3) := by decide +kernel
theorem dX11_next_327 : decode cX11_next 327 = .ok (.aload_n 0, 1) := by decide +kernel
theorem dX11_next_328 : decode cX11_next 328 = .ok (.iconst 5, 1) := by decide +kernel
theorem dX11_next_329 : decode cX11_next 329 = .ok (.putfield 226, 3) := by decide +kernel
theorem dX11_next_332 : decode cX11_next 332 = .ok (.aload_n 0, 1) := by decide +kernel
theorem dX11_next_333 : decode cX11_next 333 = .ok (.iload_n 1, 1) := by decide +kernel
theorem dX11_next_334 : decode cX11_next 334 = .ok (.putfield 229, 3) := by decide +kernel
theorem dX11_next_337 : decode cX11_next 337 = .ok (.aload_n 0, 1) := by decide +kernel
theorem dX11_next_338 : decode cX11_next 338 = .ok (.dup, 1) := by decide +kernel
theorem dX11_next_339 : decode cX11_next 339 = .ok (.getfield 219, 3) := by decide +kernel
theorem dX11_next_342 : decode cX11_next 342 = .ok (.iconst 1, 1) := by decide +kernel
theorem dX11_next_343 : decode cX11_next 343 = .ok (.iadd, 1) := by decide +kernel
theorem dX11_next_344 : decode cX11_next 344 = .ok (.putfield 219, 3) := by decide +kernel
theorem dX11_next_347 : decode cX11_next 347 = .ok (.return_, 1) := by decide +kernel
theorem dX11_is_0 : decode cX11_is 0 = .ok (.aload_n 0, 1) := by decide +kernel
theorem dX11_is_1 : decode cX11_is 1 = .ok (.getfield 226, 3) := by decide +kernel
theorem dX11_is_4 : decode cX11_is 4 = .ok (.iconst 5, 1) := by decide +kernel
theorem dX11_is_5 : decode cX11_is 5 = .ok (.if_icmp .ne 15, 3) := by decide +kernel
theorem dX11_is_8 : decode cX11_is 8 = .ok (.aload_n 0, 1) := by decide +kernel
theorem dX11_is_9 : decode cX11_is 9 = .ok (.getfield 229, 3) := by decide +kernel
theorem dX11_is_12 : decode cX11_is 12 = .ok (.iload_n 1, 1) := by decide +kernel
theorem dX11_is_13 : decode cX11_is 13 = .ok (.if_icmp .ne 7, 3) := by decide +kernel
theorem dX11_is_16 : decode cX11_is 16 = .ok (.iconst 1, 1) := by decide +kernel
theorem dX11_is_17 : decode cX11_is 17 = .ok (.goto 4, 3) := by decide +kernel
theorem dX11_is_20 : decode cX11_is 20 = .ok (.iconst 0, 1) := by decide +kernel
theorem dX11_is_21 : decode cX11_is 21 = .ok (.ireturn, 1) := by decide +kernel
theorem dX11_need_0 : decode cX11_need 0 = .ok (.aload_n 0, 1) := by decide +kernel
theorem dX11_need_1 : decode cX11_need 1 = .ok (.iload_n 1, 1) := by decide +kernel
theorem dX11_need_2 : decode cX11_need 2 = .ok (.invokevirtual 246, 3) := by decide +kernel
theorem dX11_need_5 : decode cX11_need 5 = .ok (.ifCond .ne 13, 3) := by decide +kernel
theorem dX11_need_8 : decode cX11_need 8 = .ok (.aload_n 0, 1) := by decide +kernel
theorem dX11_need_9 : decode cX11_need 9 = .ok (.iconst 1, 1) := by decide +kernel
theorem dX11_need_10 : decode cX11_need 10 = .ok (.aload_n 0, 1) := by decide +kernel
theorem dX11_need_11 : decode cX11_need 11 = .ok (.getfield 225, 3) := by decide +kernel
theorem dX11_need_14 : decode cX11_need 14 = .ok (.invokevirtual 249, 3) := by decide +kernel
theorem dX11_need_17 : decode cX11_need 17 = .ok (.athrow, 1) := by decide +kernel
theorem dX11_need_18 : decode cX11_need 18 = .ok (.aload_n 0, 1) := by decide +kernel
theorem dX11_need_19 : decode cX11_need 19 = .ok (.invokevirtual 252, 3) := by decide +kernel
theorem dX11_need_22 : decode cX11_need 22 = .ok (.return_, 1) := by decide +kernel
theorem dX11_needSort_0 : decode cX11_needSort 0 = .ok (.aload_n 0, 1) := by decide +kernel
theorem dX11_needSort_1 : decode cX11_needSort 1 = .ok (.getfield 226, 3) := by decide +kernel
theorem dX11_needSort_4 : decode cX11_needSort 4 = .ok (.iload_n 1, 1) := by decide +kernel
theorem dX11_needSort_5 : decode cX11_needSort 5 = .ok (.if_icmp .eq 13, 3) := by decide +kernel
theorem dX11_needSort_8 : decode cX11_needSort 8 = .ok (.aload_n 0, 1) := by decide +kernel
theorem dX11_needSort_9 : decode cX11_needSort 9 = .ok (.iconst 1, 1) := by decide +kernel
theorem dX11_needSort_10 : decode cX11_needSort 10 = .ok (.aload_n 0, 1) := by decide +kernel
theorem dX11_needSort_11 : decode cX11_needSort 11 = .ok (.getfield 225, 3) := by decide +kernel
theorem dX11_needSort_14 : decode cX11_needSort 14 = .ok (.invokevirtual 249, 3) := by decide +kernel
theorem dX11_needSort_17 : decode cX11_needSort 17 = .ok (.athrow, 1) := by decide +kernel
theorem dX11_needSort_18 : decode cX11_needSort 18 = .ok (.return_, 1) := by decide +kernel
theorem dX11_word_0 : decode cX11_word 0 = .ok (.lconst 0, 1) := by decide +kernel
theorem dX11_word_1 : decode cX11_word 1 = .ok (.lstore_n 1, 1) := by decide +kernel
theorem dX11_word_2 : decode cX11_word 2 = .ok (.iconst 0, 1) := by decide +kernel
theorem dX11_word_3 : decode cX11_word 3 = .ok (.istore_n 3, 1) := by decide +kernel
theorem dX11_word_4 : decode cX11_word 4 = .ok (.iload_n 3, 1) := by decide +kernel
theorem dX11_word_5 : decode cX11_word 5 = .ok (.aload_n 0, 1) := by decide +kernel
theorem dX11_word_6 : decode cX11_word 6 = .ok (.invokevirtual 255, 3) := by decide +kernel
theorem dX11_word_9 : decode cX11_word 9 = .ok (.if_icmp .ge 27, 3) := by decide +kernel
theorem dX11_word_12 : decode cX11_word 12 = .ok (.ldc2_w 239, 3) := by decide +kernel
theorem dX11_word_15 : decode cX11_word 15 = .ok (.lload_n 1, 1) := by decide +kernel
theorem dX11_word_16 : decode cX11_word 16 = .ok (.lmul, 1) := by decide +kernel
theorem dX11_word_17 : decode cX11_word 17 = .ok (.aload_n 0, 1) := by decide +kernel
theorem dX11_word_18 : decode cX11_word 18 = .ok (.iload_n 3, 1) := by decide +kernel
theorem dX11_word_19 : decode cX11_word 19 = .ok (.invokevirtual 260, 3) := by decide +kernel
theorem dX11_word_22 : decode cX11_word 22 = .ok (.bipush 97, 2) := by decide +kernel
theorem dX11_word_24 : decode cX11_word 24 = .ok (.isub, 1) := by decide +kernel
theorem dX11_word_25 : decode cX11_word 25 = .ok (.iconst 1, 1) := by decide +kernel
theorem dX11_word_26 : decode cX11_word 26 = .ok (.iadd, 1) := by decide +kernel
theorem dX11_word_27 : decode cX11_word 27 = .ok (.i2l, 1) := by decide +kernel
theorem dX11_word_28 : decode cX11_word 28 = .ok (.ladd, 1) := by decide +kernel
theorem dX11_word_29 : decode cX11_word 29 = .ok (.lstore_n 1, 1) := by decide +kernel
theorem dX11_word_30 : decode cX11_word 30 = .ok (.iinc 3 1, 3) := by decide +kernel
theorem dX11_word_33 : decode cX11_word 33 = .ok (.goto (-29), 3) := by decide +kernel
theorem dX11_word_36 : decode cX11_word 36 = .ok (.lload_n 1, 1) := by decide +kernel
theorem dX11_word_37 : decode cX11_word 37 = .ok (.lreturn, 1) := by decide +kernel
theorem dX11_fieldOf_0 : decode cX11_fieldOf 0 = .ok (.iconst 0, 1) := by decide +kernel
theorem dX11_fieldOf_1 : decode cX11_fieldOf 1 = .ok (.istore 4, 2) := by decide +kernel
theorem dX11_fieldOf_3 : decode cX11_fieldOf 3 = .ok (.iload 4, 2) := by decide +kernel
theorem dX11_fieldOf_5 : decode cX11_fieldOf 5 = .ok (.aload_n 0, 1) := by decide +kernel
theorem dX11_fieldOf_6 : decode cX11_fieldOf 6 = .ok (.getfield 47, 3) := by decide +kernel
theorem dX11_fieldOf_9 : decode cX11_fieldOf 9 = .ok (.iload_n 1, 1) := by decide +kernel
theorem dX11_fieldOf_10 : decode cX11_fieldOf 10 = .ok (.iaload, 1) := by decide +kernel
theorem dX11_fieldOf_11 : decode cX11_fieldOf 11 = .ok (.if_icmp .ge 26, 3) := by decide +kernel
theorem dX11_fieldOf_14 : decode cX11_fieldOf 14 = .ok (.aload_n 0, 1) := by decide +kernel
theorem dX11_fieldOf_15 : decode cX11_fieldOf 15 = .ok (.getfield 62, 3) := by decide +kernel
theorem dX11_fieldOf_18 : decode cX11_fieldOf 18 = .ok (.bipush 8, 2) := by decide +kernel
theorem dX11_fieldOf_20 : decode cX11_fieldOf 20 = .ok (.iload_n 1, 1) := by decide +kernel
theorem dX11_fieldOf_21 : decode cX11_fieldOf 21 = .ok (.imul, 1) := by decide +kernel
theorem dX11_fieldOf_22 : decode cX11_fieldOf 22 = .ok (.iload 4, 2) := by decide +kernel
theorem dX11_fieldOf_24 : decode cX11_fieldOf 24 = .ok (.iadd, 1) := by decide +kernel
theorem dX11_fieldOf_25 : decode cX11_fieldOf 25 = .ok (.laload, 1) := by decide +kernel
theorem dX11_fieldOf_26 : decode cX11_fieldOf 26 = .ok (.lload_n 2, 1) := by decide +kernel
theorem dX11_fieldOf_27 : decode cX11_fieldOf 27 = .ok (.lcmp, 1) := by decide +kernel
theorem dX11_fieldOf_28 : decode cX11_fieldOf 28 = .ok (.ifCond .eq 9, 3) := by decide +kernel
theorem dX11_fieldOf_31 : decode cX11_fieldOf 31 = .ok (.iinc 4 1, 3) := by decide +kernel
theorem dX11_fieldOf_34 : decode cX11_fieldOf 34 = .ok (.goto (-31), 3) := by decide +kernel
theorem dX11_fieldOf_37 : decode cX11_fieldOf 37 = .ok (.iload 4, 2) := by decide +kernel
theorem dX11_fieldOf_39 : decode cX11_fieldOf 39 = .ok (.aload_n 0, 1) := by decide +kernel
theorem dX11_fieldOf_40 : decode cX11_fieldOf 40 = .ok (.getfield 47, 3) := by decide +kernel
theorem dX11_fieldOf_43 : decode cX11_fieldOf 43 = .ok (.iload_n 1, 1) := by decide +kernel
theorem dX11_fieldOf_44 : decode cX11_fieldOf 44 = .ok (.iaload, 1) := by decide +kernel
theorem dX11_fieldOf_45 : decode cX11_fieldOf 45 = .ok (.if_icmp .ge 8, 3) := by decide +kernel
theorem dX11_fieldOf_48 : decode cX11_fieldOf 48 = .ok (.iload 4, 2) := by decide +kernel
theorem dX11_fieldOf_50 : decode cX11_fieldOf 50 = .ok (.goto 4, 3) := by decide +kernel
theorem dX11_fieldOf_53 : decode cX11_fieldOf 53 = .ok (.iconst (-1), 1) := by decide +kernel
theorem dX11_fieldOf_54 : decode cX11_fieldOf 54 = .ok (.ireturn, 1) := by decide +kernel
theorem dX11_start_0 : decode cX11_start 0 = .ok (.aload_n 0, 1) := by decide +kernel
theorem dX11_start_1 : decode cX11_start 1 = .ok (.iload_n 1, 1) := by decide +kernel
theorem dX11_start_2 : decode cX11_start 2 = .ok (.putfield 216, 3) := by decide +kernel
theorem dX11_start_5 : decode cX11_start 5 = .ok (.aload_n 0, 1) := by decide +kernel
theorem dX11_start_6 : decode cX11_start 6 = .ok (.iconst 0, 1) := by decide +kernel
theorem dX11_start_7 : decode cX11_start 7 = .ok (.putfield 264, 3) := by decide +kernel
theorem dX11_start_10 : decode cX11_start 10 = .ok (.aload_n 0, 1) := by decide +kernel
theorem dX11_start_11 : decode cX11_start 11 = .ok (.iconst 0, 1) := by decide +kernel
theorem dX11_start_12 : decode cX11_start 12 = .ok (.putfield 219, 3) := by decide +kernel
theorem dX11_start_15 : decode cX11_start 15 = .ok (.aload_n 0, 1) := by decide +kernel
theorem dX11_start_16 : decode cX11_start 16 = .ok (.iconst 0, 1) := by decide +kernel
theorem dX11_start_17 : decode cX11_start 17 = .ok (.putfield 267, 3) := by decide +kernel
theorem dX11_start_20 : decode cX11_start 20 = .ok (.aload_n 0, 1) := by decide +kernel
theorem dX11_start_21 : decode cX11_start 21 = .ok (.iconst (-1), 1) := by decide +kernel
theorem dX11_start_22 : decode cX11_start 22 = .ok (.putfield 15, 3) := by decide +kernel
theorem dX11_start_25 : decode cX11_start 25 = .ok (.aload_n 0, 1) := by decide +kernel
theorem dX11_start_26 : decode cX11_start 26 = .ok (.invokevirtual 252, 3) := by decide +kernel
theorem dX11_start_29 : decode cX11_start 29 = .ok (.return_, 1) := by decide +kernel
theorem dX11_readForm_0 : decode cX11_readForm 0 = .ok (.aload_n 0, 1) := by decide +kernel
theorem dX11_readForm_1 : decode cX11_readForm 1 = .ok (.getfield 170, 3) := by decide +kernel
theorem dX11_readForm_4 : decode cX11_readForm 4 = .ok (.istore_n 1, 1) := by decide +kernel
theorem dX11_readForm_5 : decode cX11_readForm 5 = .ok (.aload_n 0, 1) := by decide +kernel
theorem dX11_readForm_6 : decode cX11_readForm 6 = .ok (.getfield 47, 3) := by decide +kernel
theorem dX11_readForm_9 : decode cX11_readForm 9 = .ok (.iload_n 1, 1) := by decide +kernel
theorem dX11_readForm_10 : decode cX11_readForm 10 = .ok (.iconst 0, 1) := by decide +kernel
theorem dX11_readForm_11 : decode cX11_readForm 11 = .ok (.iastore, 1) := by decide +kernel
theorem dX11_readForm_12 : decode cX11_readForm 12 = .ok (.iconst 1, 1) := by decide +kernel
theorem dX11_readForm_13 : decode cX11_readForm 13 = .ok (.istore_n 2, 1) := by decide +kernel
theorem dX11_readForm_14 : decode cX11_readForm 14 = .ok (.iload_n 2, 1) := by decide +kernel
theorem dX11_readForm_15 : decode cX11_readForm 15 = .ok (.ifCond .eq 169, 3) := by decide +kernel
theorem dX11_readForm_18 : decode cX11_readForm 18 = .ok (.aload_n 0, 1) := by decide +kernel
theorem dX11_readForm_19 : decode cX11_readForm 19 = .ok (.iconst 2, 1) := by decide +kernel
theorem dX11_readForm_20 : decode cX11_readForm 20 = .ok (.invokevirtual 270, 3) := by decide +kernel
theorem dX11_readForm_23 : decode cX11_readForm 23 = .ok (.aload_n 0, 1) := by decide +kernel
theorem dX11_readForm_24 : decode cX11_readForm 24 = .ok (.iload_n 1, 1) := by decide +kernel
theorem dX11_readForm_25 : decode cX11_readForm 25 = .ok (.aload_n 0, 1) := by decide +kernel
theorem dX11_readForm_26 : decode cX11_readForm 26 = .ok (.getfield 232, 3) := by decide +kernel
theorem dX11_readForm_29 : decode cX11_readForm 29 = .ok (.invokevirtual 274, 3) := by decide +kernel
theorem dX11_readForm_32 : decode cX11_readForm 32 = .ok (.iconst (-1), 1) := by decide +kernel
theorem dX11_readForm_33 : decode cX11_readForm 33 = .ok (.if_icmp .eq 13, 3) := by decide +kernel
theorem dX11_readForm_36 : decode cX11_readForm 36 = .ok (.aload_n 0, 1) := by decide +kernel
theorem dX11_readForm_37 : decode cX11_readForm 37 = .ok (.iconst 3, 1) := by decide +kernel
theorem dX11_readForm_38 : decode cX11_readForm 38 = .ok (.aload_n 0, 1) := by decide +kernel
theorem dX11_readForm_39 : decode cX11_readForm 39 = .ok (.getfield 225, 3) := by decide +kernel
theorem dX11_readForm_42 : decode cX11_readForm 42 = .ok (.invokevirtual 249, 3) := by decide +kernel
theorem dX11_readForm_45 : decode cX11_readForm 45 = .ok (.athrow, 1) := by decide +kernel
theorem dX11_readForm_46 : decode cX11_readForm 46 = .ok (.aload_n 0, 1) := by decide +kernel
theorem dX11_readForm_47 : decode cX11_readForm 47 = .ok (.getfield 47, 3) := by decide +kernel
theorem dX11_readForm_50 : decode cX11_readForm 50 = .ok (.iload_n 1, 1) := by decide +kernel
theorem dX11_readForm_51 : decode cX11_readForm 51 = .ok (.iaload, 1) := by decide +kernel
theorem dX11_readForm_52 : decode cX11_readForm 52 = .ok (.bipush 8, 2) := by decide +kernel
theorem dX11_readForm_54 : decode cX11_readForm 54 = .ok (.if_icmp .ne 13, 3) := by decide +kernel
theorem dX11_readForm_57 : decode cX11_readForm 57 = .ok (.aload_n 0, 1) := by decide +kernel
theorem dX11_readForm_58 : decode cX11_readForm 58 = .ok (.iconst 5, 1) := by decide +kernel
theorem dX11_readForm_59 : decode cX11_readForm 59 = .ok (.aload_n 0, 1) := by decide +kernel
theorem dX11_readForm_60 : decode cX11_readForm 60 = .ok (.getfield 225, 3) := by decide +kernel
theorem dX11_readForm_63 : decode cX11_readForm 63 = .ok (.invokevirtual 249, 3) := by decide +kernel
theorem dX11_readForm_66 : decode cX11_readForm 66 = .ok (.athrow, 1) := by decide +kernel
theorem dX11_readForm_67 : decode cX11_readForm 67 = .ok (.bipush 8, 2) := by decide +kernel
theorem dX11_readForm_69 : decode cX11_readForm 69 = .ok (.iload_n 1, 1) := by decide +kernel
theorem dX11_readForm_70 : decode cX11_readForm 70 = .ok (.imul, 1) := by decide +kernel
theorem dX11_readForm_71 : decode cX11_readForm 71 = .ok (.aload_n 0, 1) := by decide +kernel
theorem dX11_readForm_72 : decode cX11_readForm 72 = .ok (.getfield 47, 3) := by decide +kernel
theorem dX11_readForm_75 : decode cX11_readForm 75 = .ok (.iload_n 1, 1) := by decide +kernel
theorem dX11_readForm_76 : decode cX11_readForm 76 = .ok (.iaload, 1) := by decide +kernel
theorem dX11_readForm_77 : decode cX11_readForm 77 = .ok (.iadd, 1) := by decide +kernel
theorem dX11_readForm_78 : decode cX11_readForm 78 = .ok (.istore_n 3, 1) := by decide +kernel
theorem dX11_readForm_79 : decode cX11_readForm 79 = .ok (.aload_n 0, 1) := by decide +kernel
theorem dX11_readForm_80 : decode cX11_readForm 80 = .ok (.getfield 62, 3) := by decide +kernel
theorem dX11_readForm_83 : decode cX11_readForm 83 = .ok (.iload_n 3, 1) := by decide +kernel
theorem dX11_readForm_84 : decode cX11_readForm 84 = .ok (.aload_n 0, 1) := by decide +kernel
theorem dX11_readForm_85 : decode cX11_readForm 85 = .ok (.getfield 232, 3) := by decide +kernel
theorem dX11_readForm_88 : decode cX11_readForm 88 = .ok (.lastore, 1) := by decide +kernel
theorem dX11_readForm_89 : decode cX11_readForm 89 = .ok (.aload_n 0, 1) := by decide +kernel
theorem dX11_readForm_90 : decode cX11_readForm 90 = .ok (.getfield 53, 3) := by decide +kernel
theorem dX11_readForm_93 : decode cX11_readForm 93 = .ok (.iload_n 3, 1) := by decide +kernel
theorem dX11_readForm_94 : decode cX11_readForm 94 = .ok (.iconst 0, 1) := by decide +kernel
theorem dX11_readForm_95 : decode cX11_readForm 95 = .ok (.iastore, 1) := by decide +kernel
theorem dX11_readForm_96 : decode cX11_readForm 96 = .ok (.aload_n 0, 1) := by decide +kernel
theorem dX11_readForm_97 : decode cX11_readForm 97 = .ok (.getfield 56, 3) := by decide +kernel
theorem dX11_readForm_100 : decode cX11_readForm 100 = .ok (.iload_n 3, 1) := by decide +kernel
theorem dX11_readForm_101 : decode cX11_readForm 101 = .ok (.iconst 0, 1) := by decide +kernel
theorem dX11_readForm_102 : decode cX11_readForm 102 = .ok (.iastore, 1) := by decide +kernel
theorem dX11_readForm_103 : decode cX11_readForm 103 = .ok (.aload_n 0, 1) := by decide +kernel
theorem dX11_readForm_104 : decode cX11_readForm 104 = .ok (.getfield 59, 3) := by decide +kernel
theorem dX11_readForm_107 : decode cX11_readForm 107 = .ok (.iload_n 3, 1) := by decide +kernel
theorem dX11_readForm_108 : decode cX11_readForm 108 = .ok (.iconst 0, 1) := by decide +kernel
theorem dX11_readForm_109 : decode cX11_readForm 109 = .ok (.bastore, 1) := by decide +kernel
theorem dX11_readForm_110 : decode cX11_readForm 110 = .ok (.aload_n 0, 1) := by decide +kernel
theorem dX11_readForm_111 : decode cX11_readForm 111 = .ok (.invokevirtual 252, 3) := by decide +kernel
theorem dX11_readForm_114 : decode cX11_readForm 114 = .ok (.aload_n 0, 1) := by decide +kernel
theorem dX11_readForm_115 : decode cX11_readForm 115 = .ok (.bipush 58, 2) := by decide +kernel
theorem dX11_readForm_117 : decode cX11_readForm 117 = .ok (.invokevirtual 278, 3) := by decide +kernel
theorem dX11_readForm_120 : decode cX11_readForm 120 = .ok (.aload_n 0, 1) := by decide +kernel
theorem dX11_readForm_121 : decode cX11_readForm 121 = .ok (.iload_n 1, 1) := by decide +kernel
theorem dX11_readForm_122 : decode cX11_readForm 122 = .ok (.iload_n 3, 1) := by decide +kernel
theorem dX11_readForm_123 : decode cX11_readForm 123 = .ok (.invokevirtual 281, 3) := by decide +kernel
theorem dX11_readForm_126 : decode cX11_readForm 126 = .ok (.aload_n 0, 1) := by decide +kernel
theorem dX11_readForm_127 : decode cX11_readForm 127 = .ok (.getfield 50, 3) := by decide +kernel
theorem dX11_readForm_130 : decode cX11_readForm 130 = .ok (.iload_n 3, 1) := by decide +kernel
theorem dX11_readForm_131 : decode cX11_readForm 131 = .ok (.iaload, 1) := by decide +kernel
theorem dX11_readForm_132 : decode cX11_readForm 132 = .ok (.iconst 4, 1) := by decide +kernel
theorem dX11_readForm_133 : decode cX11_readForm 133 = .ok (.if_icmp .ge 23, 3) := by decide +kernel
theorem dX11_readForm_136 : decode cX11_readForm 136 = .ok (.aload_n 0, 1) := by decide +kernel
theorem dX11_readForm_137 : decode cX11_readForm 137 = .ok (.bipush 63, 2) := by decide +kernel
theorem dX11_readForm_139 : decode cX11_readForm 139 = .ok (.invokevirtual 246, 3) := by decide +kernel
theorem dX11_readForm_142 : decode cX11_readForm 142 = .ok (.ifCond .eq 14, 3) := by decide +kernel
theorem dX11_readForm_145 : decode cX11_readForm 145 = .ok (.aload_n 0, 1) := by decide +kernel
theorem dX11_readForm_146 : decode cX11_readForm 146 = .ok (.getfield 59, 3) := by decide +kernel
theorem dX11_readForm_149 : decode cX11_readForm 149 = .ok (.iload_n 3, 1) := by decide +kernel
theorem dX11_readForm_150 : decode cX11_readForm 150 = .ok (.iconst 1, 1) := by decide +kernel
theorem dX11_readForm_151 : decode cX11_readForm 151 = .ok (.bastore, 1) := by decide +kernel
theorem dX11_readForm_152 : decode cX11_readForm 152 = .ok (.aload_n 0, 1) := by decide +kernel
theorem dX11_readForm_153 : decode cX11_readForm 153 = .ok (.invokevirtual 252, 3) := by decide +kernel
theorem dX11_readForm_156 : decode cX11_readForm 156 = .ok (.aload_n 0, 1) := by decide +kernel
theorem dX11_readForm_157 : decode cX11_readForm 157 = .ok (.getfield 47, 3) := by decide +kernel
theorem dX11_readForm_160 : decode cX11_readForm 160 = .ok (.iload_n 1, 1) := by decide +kernel
theorem dX11_readForm_161 : decode cX11_readForm 161 = .ok (.dup2, 1) := by decide +kernel
theorem dX11_readForm_162 : decode cX11_readForm 162 = .ok (.iaload, 1) := by decide +kernel
theorem dX11_readForm_163 : decode cX11_readForm 163 = .ok (.iconst 1, 1) := by decide +kernel
theorem dX11_readForm_164 : decode cX11_readForm 164 = .ok (.iadd, 1) := by decide +kernel
theorem dX11_readForm_165 : decode cX11_readForm 165 = .ok (.iastore, 1) := by decide +kernel
theorem dX11_readForm_166 : decode cX11_readForm 166 = .ok (.aload_n 0, 1) := by decide +kernel
theorem dX11_readForm_167 : decode cX11_readForm 167 = .ok (.bipush 59, 2) := by decide +kernel
theorem dX11_readForm_169 : decode cX11_readForm 169 = .ok (.invokevirtual 246, 3) := by decide +kernel
theorem dX11_readForm_172 : decode cX11_readForm 172 = .ok (.istore_n 2, 1) := by decide +kernel
theorem dX11_readForm_173 : decode cX11_readForm 173 = .ok (.iload_n 2, 1) := by decide +kernel
theorem dX11_readForm_174 : decode cX11_readForm 174 = .ok (.ifCond .eq 7, 3) := by decide +kernel
theorem dX11_readForm_177 : decode cX11_readForm 177 = .ok (.aload_n 0, 1) := by decide +kernel
theorem dX11_readForm_178 : decode cX11_readForm 178 = .ok (.invokevirtual 252, 3) := by decide +kernel
theorem dX11_readForm_181 : decode cX11_readForm 181 = .ok (.goto (-167), 3) := by decide +kernel
theorem dX11_readForm_184 : decode cX11_readForm 184 = .ok (.aload_n 0, 1) := by decide +kernel
theorem dX11_readForm_185 : decode cX11_readForm 185 = .ok (.iconst 1, 1) := by decide +kernel
theorem dX11_readForm_186 : decode cX11_readForm 186 = .ok (.invokevirtual 270, 3) := by decide +kernel
theorem dX11_readForm_189 : decode cX11_readForm 189 = .ok (.return_, 1) := by decide +kernel
theorem dX11_readKind_0 : decode cX11_readKind 0 = .ok (.aload_n 0, 1) := by decide +kernel
theorem dX11_readKind_1 : decode cX11_readKind 1 = .ok (.iconst 2, 1) := by decide +kernel
theorem dX11_readKind_2 : decode cX11_readKind 2 = .ok (.invokevirtual 270, 3) := by decide +kernel
theorem dX11_readKind_5 : decode cX11_readKind 5 = .ok (.aload_n 0, 1) := by decide +kernel
theorem dX11_readKind_6 : decode cX11_readKind 6 = .ok (.getfield 232, 3) := by decide +kernel
theorem dX11_readKind_9 : decode cX11_readKind 9 = .ok (.lstore_n 3, 1) := by decide +kernel
theorem dX11_readKind_10 : decode cX11_readKind 10 = .ok (.lload_n 3, 1) := by decide +kernel
theorem dX11_readKind_11 : decode cX11_readKind 11 = .ok (.ldc_w 285, 3) := by decide +kernel
theorem dX11_readKind_14 : decode cX11_readKind 14 = .ok (.invokestatic 287, 3) := by decide +kernel
theorem dX11_readKind_17 : decode cX11_readKind 17 = .ok (.lcmp, 1) := by decide +kernel
theorem dX11_readKind_18 : decode cX11_readKind 18 = .ok (.ifCond .eq 47, 3) := by decide +kernel
theorem dX11_readKind_21 : decode cX11_readKind 21 = .ok (.lload_n 3, 1) := by decide +kernel
theorem dX11_readKind_22 : decode cX11_readKind 22 = .ok (.ldc_w 291, 3) := by decide +kernel
theorem dX11_readKind_25 : decode cX11_readKind 25 = .ok (.invokestatic 287, 3) := by decide +kernel
theorem dX11_readKind_28 : decode cX11_readKind 28 = .ok (.lcmp, 1) := by decide +kernel
theorem dX11_readKind_29 : decode cX11_readKind 29 = .ok (.ifCond .eq 36, 3) := by decide +kernel
theorem dX11_readKind_32 : decode cX11_readKind 32 = .ok (.lload_n 3, 1) := by decide +kernel
theorem dX11_readKind_33 : decode cX11_readKind 33 = .ok (.ldc_w 293, 3) := by decide +kernel
theorem dX11_readKind_36 : decode cX11_readKind 36 = .ok (.invokestatic 287, 3) := by decide +kernel
theorem dX11_readKind_39 : decode cX11_readKind 39 = .ok (.lcmp, 1) := by decide +kernel
theorem dX11_readKind_40 : decode cX11_readKind 40 = .ok (.ifCond .eq 25, 3) := by decide +kernel
theorem dX11_readKind_43 : decode cX11_readKind 43 = .ok (.lload_n 3, 1) := by decide +kernel
theorem dX11_readKind_44 : decode cX11_readKind 44 = .ok (.ldc_w 294, 3) := by decide +kernel
theorem dX11_readKind_47 : decode cX11_readKind 47 = .ok (.invokestatic 287, 3) := by decide +kernel
theorem dX11_readKind_50 : decode cX11_readKind 50 = .ok (.lcmp, 1) := by decide +kernel
theorem dX11_readKind_51 : decode cX11_readKind 51 = .ok (.ifCond .eq 14, 3) := by decide +kernel
theorem dX11_readKind_54 : decode cX11_readKind 54 = .ok (.lload_n 3, 1) := by decide +kernel
theorem dX11_readKind_55 : decode cX11_readKind 55 = .ok (.ldc_w 296, 3) := by decide +kernel
theorem dX11_readKind_58 : decode cX11_readKind 58 = .ok (.invokestatic 287, 3) := by decide +kernel
theorem dX11_readKind_61 : decode cX11_readKind 61 = .ok (.lcmp, 1) := by decide +kernel
theorem dX11_readKind_62 : decode cX11_readKind 62 = .ok (.ifCond .ne 7, 3) := by decide +kernel
theorem dX11_readKind_65 : decode cX11_readKind 65 = .ok (.iconst 1, 1) := by decide +kernel
theorem dX11_readKind_66 : decode cX11_readKind 66 = .ok (.goto 4, 3) := by decide +kernel
theorem dX11_readKind_69 : decode cX11_readKind 69 = .ok (.iconst 0, 1) := by decide +kernel
theorem dX11_readKind_70 : decode cX11_readKind 70 = .ok (.istore 5, 2) := by decide +kernel
theorem dX11_readKind_72 : decode cX11_readKind 72 = .ok (.iload 5, 2) := by decide +kernel
theorem dX11_readKind_74 : decode cX11_readKind 74 = .ok (.ifCond .ne 13, 3) := by decide +kernel
theorem dX11_readKind_77 : decode cX11_readKind 77 = .ok (.aload_n 0, 1) := by decide +kernel
theorem dX11_readKind_78 : decode cX11_readKind 78 = .ok (.iconst 1, 1) := by decide +kernel
theorem dX11_readKind_79 : decode cX11_readKind 79 = .ok (.aload_n 0, 1) := by decide +kernel
theorem dX11_readKind_80 : decode cX11_readKind 80 = .ok (.getfield 225, 3) := by decide +kernel
theorem dX11_readKind_83 : decode cX11_readKind 83 = .ok (.invokevirtual 249, 3) := by decide +kernel
theorem dX11_readKind_86 : decode cX11_readKind 86 = .ok (.athrow, 1) := by decide +kernel
theorem dX11_readKind_87 : decode cX11_readKind 87 = .ok (.aload_n 0, 1) := by decide +kernel
theorem dX11_readKind_88 : decode cX11_readKind 88 = .ok (.invokevirtual 252, 3) := by decide +kernel
theorem dX11_readKind_91 : decode cX11_readKind 91 = .ok (.lload_n 3, 1) := by decide +kernel
theorem dX11_readKind_92 : decode cX11_readKind 92 = .ok (.ldc_w 285, 3) := by decide +kernel
theorem dX11_readKind_95 : decode cX11_readKind 95 = .ok (.invokestatic 287, 3) := by decide +kernel
theorem dX11_readKind_98 : decode cX11_readKind 98 = .ok (.lcmp, 1) := by decide +kernel
theorem dX11_readKind_99 : decode cX11_readKind 99 = .ok (.ifCond .ne 87, 3) := by decide +kernel
theorem dX11_readKind_102 : decode cX11_readKind 102 = .ok (.aload_n 0, 1) := by decide +kernel
theorem dX11_readKind_103 : decode cX11_readKind 103 = .ok (.getfield 50, 3) := by decide +kernel
theorem dX11_readKind_106 : decode cX11_readKind 106 = .ok (.iload_n 2, 1) := by decide +kernel
theorem dX11_readKind_107 : decode cX11_readKind 107 = .ok (.iconst 0, 1) := by decide +kernel
theorem dX11_readKind_108 : decode cX11_readKind 108 = .ok (.iastore, 1) := by decide +kernel
theorem dX11_readKind_109 : decode cX11_readKind 109 = .ok (.aload_n 0, 1) := by decide +kernel
theorem dX11_readKind_110 : decode cX11_readKind 110 = .ok (.iconst 3, 1) := by decide +kernel
theorem dX11_readKind_111 : decode cX11_readKind 111 = .ok (.invokevirtual 270, 3) := by decide +kernel
theorem dX11_readKind_114 : decode cX11_readKind 114 = .ok (.aload_n 0, 1) := by decide +kernel
theorem dX11_readKind_115 : decode cX11_readKind 115 = .ok (.getfield 53, 3) := by decide +kernel
theorem dX11_readKind_118 : decode cX11_readKind 118 = .ok (.iload_n 2, 1) := by decide +kernel
theorem dX11_readKind_119 : decode cX11_readKind 119 = .ok (.aload_n 0, 1) := by decide +kernel
theorem dX11_readKind_120 : decode cX11_readKind 120 = .ok (.getfield 232, 3) := by decide +kernel
theorem dX11_readKind_123 : decode cX11_readKind 123 = .ok (.l2i, 1) := by decide +kernel
theorem dX11_readKind_124 : decode cX11_readKind 124 = .ok (.iastore, 1) := by decide +kernel
theorem dX11_readKind_125 : decode cX11_readKind 125 = .ok (.aload_n 0, 1) := by decide +kernel
theorem dX11_readKind_126 : decode cX11_readKind 126 = .ok (.invokevirtual 252, 3) := by decide +kernel
theorem dX11_readKind_129 : decode cX11_readKind 129 = .ok (.aload_n 0, 1) := by decide +kernel
theorem dX11_readKind_130 : decode cX11_readKind 130 = .ok (.iconst 4, 1) := by decide +kernel
theorem dX11_readKind_131 : decode cX11_readKind 131 = .ok (.invokevirtual 270, 3) := by decide +kernel
theorem dX11_readKind_134 : decode cX11_readKind 134 = .ok (.aload_n 0, 1) := by decide +kernel
theorem dX11_readKind_135 : decode cX11_readKind 135 = .ok (.invokevirtual 252, 3) := by decide +kernel
theorem dX11_readKind_138 : decode cX11_readKind 138 = .ok (.aload_n 0, 1) := by decide +kernel
theorem dX11_readKind_139 : decode cX11_readKind 139 = .ok (.iconst 3, 1) := by decide +kernel
theorem dX11_readKind_140 : decode cX11_readKind 140 = .ok (.invokevirtual 270, 3) := by decide +kernel
theorem dX11_readKind_143 : decode cX11_readKind 143 = .ok (.aload_n 0, 1) := by decide +kernel
theorem dX11_readKind_144 : decode cX11_readKind 144 = .ok (.getfield 232, 3) := by decide +kernel
theorem dX11_readKind_147 : decode cX11_readKind 147 = .ok (.aload_n 0, 1) := by decide +kernel
theorem dX11_readKind_148 : decode cX11_readKind 148 = .ok (.getfield 53, 3) := by decide +kernel
theorem dX11_readKind_151 : decode cX11_readKind 151 = .ok (.iload_n 2, 1) := by decide +kernel
theorem dX11_readKind_152 : decode cX11_readKind 152 = .ok (.iaload, 1) := by decide +kernel
theorem dX11_readKind_153 : decode cX11_readKind 153 = .ok (.i2l, 1) := by decide +kernel
theorem dX11_readKind_154 : decode cX11_readKind 154 = .ok (.lcmp, 1) := by decide +kernel
theorem dX11_readKind_155 : decode cX11_readKind 155 = .ok (.ifCond .ge 13, 3) := by decide +kernel
theorem dX11_readKind_158 : decode cX11_readKind 158 = .ok (.aload_n 0, 1) := by decide +kernel
theorem dX11_readKind_159 : decode cX11_readKind 159 = .ok (.iconst 4, 1) := by decide +kernel
theorem dX11_readKind_160 : decode cX11_readKind 160 = .ok (.aload_n 0, 1) := by decide +kernel
theorem dX11_readKind_161 : decode cX11_readKind 161 = .ok (.getfield 225, 3) := by decide +kernel
theorem dX11_readKind_164 : decode cX11_readKind 164 = .ok (.invokevirtual 249, 3) := by decide +kernel
theorem dX11_readKind_167 : decode cX11_readKind 167 = .ok (.athrow, 1) := by decide +kernel
theorem dX11_readKind_168 : decode cX11_readKind 168 = .ok (.aload_n 0, 1) := by decide +kernel
theorem dX11_readKind_169 : decode cX11_readKind 169 = .ok (.getfield 56, 3) := by decide +kernel
theorem dX11_readKind_172 : decode cX11_readKind 172 = .ok (.iload_n 2, 1) := by decide +kernel
theorem dX11_readKind_173 : decode cX11_readKind 173 = .ok (.aload_n 0, 1) := by decide +kernel
theorem dX11_readKind_174 : decode cX11_readKind 174 = .ok (.getfield 232, 3) := by decide +kernel
theorem dX11_readKind_177 : decode cX11_readKind 177 = .ok (.l2i, 1) := by decide +kernel
theorem dX11_readKind_178 : decode cX11_readKind 178 = .ok (.iastore, 1) := by decide +kernel
theorem dX11_readKind_179 : decode cX11_readKind 179 = .ok (.aload_n 0, 1) := by decide +kernel
theorem dX11_readKind_180 : decode cX11_readKind 180 = .ok (.invokevirtual 252, 3) := by decide +kernel
theorem dX11_readKind_183 : decode cX11_readKind 183 = .ok (.goto 71, 3) := by decide +kernel
theorem dX11_readKind_186 : decode cX11_readKind 186 = .ok (.lload_n 3, 1) := by decide +kernel
theorem dX11_readKind_187 : decode cX11_readKind 187 = .ok (.ldc_w 294, 3) := by decide +kernel
theorem dX11_readKind_190 : decode cX11_readKind 190 = .ok (.invokestatic 287, 3) := by decide +kernel
theorem dX11_readKind_193 : decode cX11_readKind 193 = .ok (.lcmp, 1) := by decide +kernel
theorem dX11_readKind_194 : decode cX11_readKind 194 = .ok (.ifCond .ne 18, 3) := by decide +kernel
theorem dX11_readKind_197 : decode cX11_readKind 197 = .ok (.aload_n 0, 1) := by decide +kernel
theorem dX11_readKind_198 : decode cX11_readKind 198 = .ok (.getfield 50, 3) := by decide +kernel
theorem dX11_readKind_201 : decode cX11_readKind 201 = .ok (.iload_n 2, 1) := by decide +kernel
theorem dX11_readKind_202 : decode cX11_readKind 202 = .ok (.iconst 3, 1) := by decide +kernel
theorem dX11_readKind_203 : decode cX11_readKind 203 = .ok (.iastore, 1) := by decide +kernel
theorem dX11_readKind_204 : decode cX11_readKind 204 = .ok (.aload_n 0, 1) := by decide +kernel
theorem dX11_readKind_205 : decode cX11_readKind 205 = .ok (.iload_n 2, 1) := by decide +kernel
theorem dX11_readKind_206 : decode cX11_readKind 206 = .ok (.invokevirtual 298, 3) := by decide +kernel
theorem dX11_readKind_209 : decode cX11_readKind 209 = .ok (.goto 45, 3) := by decide +kernel
theorem dX11_readKind_212 : decode cX11_readKind 212 = .ok (.lload_n 3, 1) := by decide +kernel
theorem dX11_readKind_213 : decode cX11_readKind 213 = .ok (.ldc_w 296, 3) := by decide +kernel
theorem dX11_readKind_216 : decode cX11_readKind 216 = .ok (.invokestatic 287, 3) := by decide +kernel
theorem dX11_readKind_219 : decode cX11_readKind 219 = .ok (.lcmp, 1) := by decide +kernel
theorem dX11_readKind_220 : decode cX11_readKind 220 = .ok (.ifCond .ne 12, 3) := by decide +kernel
theorem dX11_readKind_223 : decode cX11_readKind 223 = .ok (.aload_n 0, 1) := by decide +kernel
theorem dX11_readKind_224 : decode cX11_readKind 224 = .ok (.iload_n 1, 1) := by decide +kernel
theorem dX11_readKind_225 : decode cX11_readKind 225 = .ok (.iload_n 2, 1) := by decide +kernel
theorem dX11_readKind_226 : decode cX11_readKind 226 = .ok (.invokevirtual 301, 3) := by decide +kernel
theorem dX11_readKind_229 : decode cX11_readKind 229 = .ok (.goto 25, 3) := by decide +kernel
theorem dX11_readKind_232 : decode cX11_readKind 232 = .ok (.aload_n 0, 1) := by decide +kernel
theorem dX11_readKind_233 : decode cX11_readKind 233 = .ok (.getfield 50, 3) := by decide +kernel
theorem dX11_readKind_236 : decode cX11_readKind 236 = .ok (.iload_n 2, 1) := by decide +kernel
theorem dX11_readKind_237 : decode cX11_readKind 237 = .ok (.lload_n 3, 1) := by decide +kernel
theorem dX11_readKind_238 : decode cX11_readKind 238 = .ok (.ldc_w 291, 3) := by decide +kernel
theorem dX11_readKind_241 : decode cX11_readKind 241 = .ok (.invokestatic 287, 3) := by decide +kernel
theorem dX11_readKind_244 : decode cX11_readKind 244 = .ok (.lcmp, 1) := by decide +kernel
theorem dX11_readKind_245 : decode cX11_readKind 245 = .ok (.ifCond .ne 7, 3) := by decide +kernel
theorem dX11_readKind_248 : decode cX11_readKind 248 = .ok (.iconst 1, 1) := by decide +kernel
theorem dX11_readKind_249 : decode cX11_readKind 249 = .ok (.goto 4, 3) := by decide +kernel
theorem dX11_readKind_252 : decode cX11_readKind 252 = .ok (.iconst 2, 1) := by decide +kernel
theorem dX11_readKind_253 : decode cX11_readKind 253 = .ok (.iastore, 1) := by decide +kernel
theorem dX11_readKind_254 : decode cX11_readKind 254 = .ok (.return_, 1) := by decide +kernel
theorem dX11_readChoices_0 : decode cX11_readChoices 0 = .ok (.iconst 1, 1) := by decide +kernel
theorem dX11_readChoices_1 : decode cX11_readChoices 1 = .ok (.istore_n 2, 1) := by decide +kernel
theorem dX11_readChoices_2 : decode cX11_readChoices 2 = .ok (.iload_n 2, 1) := by decide +kernel
theorem dX11_readChoices_3 : decode cX11_readChoices 3 = .ok (.ifCond .eq 125, 3) := by decide +kernel
theorem dX11_readChoices_6 : decode cX11_readChoices 6 = .ok (.aload_n 0, 1) := by decide +kernel
theorem dX11_readChoices_7 : decode cX11_readChoices 7 = .ok (.iconst 2, 1) := by decide +kernel
theorem dX11_readChoices_8 : decode cX11_readChoices 8 = .ok (.invokevirtual 270, 3) := by decide +kernel
theorem dX11_readChoices_11 : decode cX11_readChoices 11 = .ok (.iconst 0, 1) := by decide +kernel
theorem dX11_readChoices_12 : decode cX11_readChoices 12 = .ok (.istore_n 3, 1) := by decide +kernel
theorem dX11_readChoices_13 : decode cX11_readChoices 13 = .ok (.iload_n 3, 1) := by decide +kernel
theorem dX11_readChoices_14 : decode cX11_readChoices 14 = .ok (.aload_n 0, 1) := by decide +kernel
theorem dX11_readChoices_15 : decode cX11_readChoices 15 = .ok (.getfield 53, 3) := by decide +kernel
theorem dX11_readChoices_18 : decode cX11_readChoices 18 = .ok (.iload_n 1, 1) := by decide +kernel
theorem dX11_readChoices_19 : decode cX11_readChoices 19 = .ok (.iaload, 1) := by decide +kernel
theorem dX11_readChoices_20 : decode cX11_readChoices 20 = .ok (.if_icmp .ge 37, 3) := by decide +kernel
theorem dX11_readChoices_23 : decode cX11_readChoices 23 = .ok (.aload_n 0, 1) := by decide +kernel
theorem dX11_readChoices_24 : decode cX11_readChoices 24 = .ok (.getfield 65, 3) := by decide +kernel
theorem dX11_readChoices_27 : decode cX11_readChoices 27 = .ok (.iconst 4, 1) := by decide +kernel
theorem dX11_readChoices_28 : decode cX11_readChoices 28 = .ok (.iload_n 1, 1) := by decide +kernel
theorem dX11_readChoices_29 : decode cX11_readChoices 29 = .ok (.imul, 1) := by decide +kernel
theorem dX11_readChoices_30 : decode cX11_readChoices 30 = .ok (.iload_n 3, 1) := by decide +kernel
theorem dX11_readChoices_31 : decode cX11_readChoices 31 = .ok (.iadd, 1) := by decide +kernel
theorem dX11_readChoices_32 : decode cX11_readChoices 32 = .ok (.laload, 1) := by decide +kernel
theorem dX11_readChoices_33 : decode cX11_readChoices 33 = .ok (.aload_n 0, 1) := by decide +kernel
theorem dX11_readChoices_34 : decode cX11_readChoices 34 = .ok (.getfield 232, 3) := by decide +kernel
theorem dX11_readChoices_37 : decode cX11_readChoices 37 = .ok (.lcmp, 1) := by decide +kernel
theorem dX11_readChoices_38 : decode cX11_readChoices 38 = .ok (.ifCond .ne 13, 3) := by decide +kernel
theorem dX11_readChoices_41 : decode cX11_readChoices 41 = .ok (.aload_n 0, 1) := by decide +kernel
theorem dX11_readChoices_42 : decode cX11_readChoices 42 = .ok (.iconst 3, 1) := by decide +kernel
theorem dX11_readChoices_43 : decode cX11_readChoices 43 = .ok (.aload_n 0, 1) := by decide +kernel
theorem dX11_readChoices_44 : decode cX11_readChoices 44 = .ok (.getfield 225, 3) := by decide +kernel
theorem dX11_readChoices_47 : decode cX11_readChoices 47 = .ok (.invokevirtual 249, 3) := by decide +kernel
theorem dX11_readChoices_50 : decode cX11_readChoices 50 = .ok (.athrow, 1) := by decide +kernel
theorem dX11_readChoices_51 : decode cX11_readChoices 51 = .ok (.iinc 3 1, 3) := by decide +kernel
theorem dX11_readChoices_54 : decode cX11_readChoices 54 = .ok (.goto (-41), 3) := by decide +kernel
theorem dX11_readChoices_57 : decode cX11_readChoices 57 = .ok (.aload_n 0, 1) := by decide +kernel
theorem dX11_readChoices_58 : decode cX11_readChoices 58 = .ok (.getfield 53, 3) := by decide +kernel
theorem dX11_readChoices_61 : decode cX11_readChoices 61 = .ok (.iload_n 1, 1) := by decide +kernel
theorem dX11_readChoices_62 : decode cX11_readChoices 62 = .ok (.iaload, 1) := by decide +kernel
theorem dX11_readChoices_63 : decode cX11_readChoices 63 = .ok (.iconst 4, 1) := by decide +kernel
theorem dX11_readChoices_64 : decode cX11_readChoices 64 = .ok (.if_icmp .ne 13, 3) := by decide +kernel
theorem dX11_readChoices_67 : decode cX11_readChoices 67 = .ok (.aload_n 0, 1) := by decide +kernel
theorem dX11_readChoices_68 : decode cX11_readChoices 68 = .ok (.iconst 5, 1) := by decide +kernel
theorem dX11_readChoices_69 : decode cX11_readChoices 69 = .ok (.aload_n 0, 1) := by decide +kernel
theorem dX11_readChoices_70 : decode cX11_readChoices 70 = .ok (.getfield 225, 3) := by decide +kernel
theorem dX11_readChoices_73 : decode cX11_readChoices 73 = .ok (.invokevirtual 249, 3) := by decide +kernel
theorem dX11_readChoices_76 : decode cX11_readChoices 76 = .ok (.athrow, 1) := by decide +kernel
theorem dX11_readChoices_77 : decode cX11_readChoices 77 = .ok (.aload_n 0, 1) := by decide +kernel
theorem dX11_readChoices_78 : decode cX11_readChoices 78 = .ok (.getfield 65, 3) := by decide +kernel
theorem dX11_readChoices_81 : decode cX11_readChoices 81 = .ok (.iconst 4, 1) := by decide +kernel
theorem dX11_readChoices_82 : decode cX11_readChoices 82 = .ok (.iload_n 1, 1) := by decide +kernel
theorem dX11_readChoices_83 : decode cX11_readChoices 83 = .ok (.imul, 1) := by decide +kernel
theorem dX11_readChoices_84 : decode cX11_readChoices 84 = .ok (.aload_n 0, 1) := by decide +kernel
theorem dX11_readChoices_85 : decode cX11_readChoices 85 = .ok (.getfield 53, 3) := by decide +kernel
theorem dX11_readChoices_88 : decode cX11_readChoices 88 = .ok (.iload_n 1, 1) := by decide +kernel
theorem dX11_readChoices_89 : decode cX11_readChoices 89 = .ok (.iaload, 1) := by decide +kernel
theorem dX11_readChoices_90 : decode cX11_readChoices 90 = .ok (.iadd, 1) := by decide +kernel
theorem dX11_readChoices_91 : decode cX11_readChoices 91 = .ok (.aload_n 0, 1) := by decide +kernel
theorem dX11_readChoices_92 : decode cX11_readChoices 92 = .ok (.getfield 232, 3) := by decide +kernel
theorem dX11_readChoices_95 : decode cX11_readChoices 95 = .ok (.lastore, 1) := by decide +kernel
theorem dX11_readChoices_96 : decode cX11_readChoices 96 = .ok (.aload_n 0, 1) := by decide +kernel
theorem dX11_readChoices_97 : decode cX11_readChoices 97 = .ok (.getfield 53, 3) := by decide +kernel
theorem dX11_readChoices_100 : decode cX11_readChoices 100 = .ok (.iload_n 1, 1) := by decide +kernel
theorem dX11_readChoices_101 : decode cX11_readChoices 101 = .ok (.dup2, 1) := by decide +kernel
theorem dX11_readChoices_102 : decode cX11_readChoices 102 = .ok (.iaload, 1) := by decide +kernel
theorem dX11_readChoices_103 : decode cX11_readChoices 103 = .ok (.iconst 1, 1) := by decide +kernel
theorem dX11_readChoices_104 : decode cX11_readChoices 104 = .ok (.iadd, 1) := by decide +kernel
theorem dX11_readChoices_105 : decode cX11_readChoices 105 = .ok (.iastore, 1) := by decide +kernel
theorem dX11_readChoices_106 : decode cX11_readChoices 106 = .ok (.aload_n 0, 1) := by decide +kernel
theorem dX11_readChoices_107 : decode cX11_readChoices 107 = .ok (.invokevirtual 252, 3) := by decide +kernel
theorem dX11_readChoices_110 : decode cX11_readChoices 110 = .ok (.aload_n 0, 1) := by decide +kernel
theorem dX11_readChoices_111 : decode cX11_readChoices 111 = .ok (.bipush 47, 2) := by decide +kernel
theorem dX11_readChoices_113 : decode cX11_readChoices 113 = .ok (.invokevirtual 246, 3) := by decide +kernel
theorem dX11_readChoices_116 : decode cX11_readChoices 116 = .ok (.istore_n 2, 1) := by decide +kernel
theorem dX11_readChoices_117 : decode cX11_readChoices 117 = .ok (.iload_n 2, 1) := by decide +kernel
theorem dX11_readChoices_118 : decode cX11_readChoices 118 = .ok (.ifCond .eq (-116), 3) := by decide +kernel
theorem dX11_readChoices_121 : decode cX11_readChoices 121 = .ok (.aload_n 0, 1) := by decide +kernel
theorem dX11_readChoices_122 : decode cX11_readChoices 122 = .ok (.invokevirtual 252, 3) := by decide +kernel
theorem dX11_readChoices_125 : decode cX11_readChoices 125 = .ok (.goto (-123), 3) := by decide +kernel
theorem dX11_readChoices_128 : decode cX11_readChoices 128 = .ok (.return_, 1) := by decide +kernel
theorem dX11_readSpan_0 : decode cX11_readSpan 0 = .ok (.aload_n 0, 1) := by decide +kernel
theorem dX11_readSpan_1 : decode cX11_readSpan 1 = .ok (.iconst 3, 1) := by decide +kernel
theorem dX11_readSpan_2 : decode cX11_readSpan 2 = .ok (.invokevirtual 270, 3) := by decide +kernel
theorem dX11_readSpan_5 : decode cX11_readSpan 5 = .ok (.aload_n 0, 1) := by decide +kernel
theorem dX11_readSpan_6 : decode cX11_readSpan 6 = .ok (.getfield 53, 3) := by decide +kernel
theorem dX11_readSpan_9 : decode cX11_readSpan 9 = .ok (.iload_n 2, 1) := by decide +kernel
theorem dX11_readSpan_10 : decode cX11_readSpan 10 = .ok (.aload_n 0, 1) := by decide +kernel
theorem dX11_readSpan_11 : decode cX11_readSpan 11 = .ok (.getfield 232, 3) := by decide +kernel
theorem dX11_readSpan_14 : decode cX11_readSpan 14 = .ok (.l2i, 1) := by decide +kernel
theorem dX11_readSpan_15 : decode cX11_readSpan 15 = .ok (.iastore, 1) := by decide +kernel
theorem dX11_readSpan_16 : decode cX11_readSpan 16 = .ok (.aload_n 0, 1) := by decide +kernel
theorem dX11_readSpan_17 : decode cX11_readSpan 17 = .ok (.invokevirtual 252, 3) := by decide +kernel
theorem dX11_readSpan_20 : decode cX11_readSpan 20 = .ok (.aload_n 0, 1) := by decide +kernel
theorem dX11_readSpan_21 : decode cX11_readSpan 21 = .ok (.iconst 2, 1) := by decide +kernel
theorem dX11_readSpan_22 : decode cX11_readSpan 22 = .ok (.invokevirtual 270, 3) := by decide +kernel
theorem dX11_readSpan_25 : decode cX11_readSpan 25 = .ok (.aload_n 0, 1) := by decide +kernel
theorem dX11_readSpan_26 : decode cX11_readSpan 26 = .ok (.getfield 232, 3) := by decide +kernel
theorem dX11_readSpan_29 : decode cX11_readSpan 29 = .ok (.ldc_w 304, 3) := by decide +kernel
theorem dX11_readSpan_32 : decode cX11_readSpan 32 = .ok (.invokestatic 287, 3) := by decide +kernel
theorem dX11_readSpan_35 : decode cX11_readSpan 35 = .ok (.lcmp, 1) := by decide +kernel
theorem dX11_readSpan_36 : decode cX11_readSpan 36 = .ok (.ifCond .eq 27, 3) := by decide +kernel
theorem dX11_readSpan_39 : decode cX11_readSpan 39 = .ok (.aload_n 0, 1) := by decide +kernel
theorem dX11_readSpan_40 : decode cX11_readSpan 40 = .ok (.getfield 232, 3) := by decide +kernel
theorem dX11_readSpan_43 : decode cX11_readSpan 43 = .ok (.ldc_w 306, 3) := by decide +kernel
theorem dX11_readSpan_46 : decode cX11_readSpan 46 = .ok (.invokestatic 287, 3) := by decide +kernel
theorem dX11_readSpan_49 : decode cX11_readSpan 49 = .ok (.lcmp, 1) := by decide +kernel
theorem dX11_readSpan_50 : decode cX11_readSpan 50 = .ok (.ifCond .eq 13, 3) := by decide +kernel
theorem dX11_readSpan_53 : decode cX11_readSpan 53 = .ok (.aload_n 0, 1) := by decide +kernel
theorem dX11_readSpan_54 : decode cX11_readSpan 54 = .ok (.iconst 1, 1) := by decide +kernel
theorem dX11_readSpan_55 : decode cX11_readSpan 55 = .ok (.aload_n 0, 1) := by decide +kernel
theorem dX11_readSpan_56 : decode cX11_readSpan 56 = .ok (.getfield 225, 3) := by decide +kernel
theorem dX11_readSpan_59 : decode cX11_readSpan 59 = .ok (.invokevirtual 249, 3) := by decide +kernel
theorem dX11_readSpan_62 : decode cX11_readSpan 62 = .ok (.athrow, 1) := by decide +kernel
theorem dX11_readSpan_63 : decode cX11_readSpan 63 = .ok (.aload_n 0, 1) := by decide +kernel
theorem dX11_readSpan_64 : decode cX11_readSpan 64 = .ok (.getfield 50, 3) := by decide +kernel
theorem dX11_readSpan_67 : decode cX11_readSpan 67 = .ok (.iload_n 2, 1) := by decide +kernel
theorem dX11_readSpan_68 : decode cX11_readSpan 68 = .ok (.aload_n 0, 1) := by decide +kernel
theorem dX11_readSpan_69 : decode cX11_readSpan 69 = .ok (.getfield 232, 3) := by decide +kernel
theorem dX11_readSpan_72 : decode cX11_readSpan 72 = .ok (.ldc_w 304, 3) := by decide +kernel
theorem dX11_readSpan_75 : decode cX11_readSpan 75 = .ok (.invokestatic 287, 3) := by decide +kernel
theorem dX11_readSpan_78 : decode cX11_readSpan 78 = .ok (.lcmp, 1) := by decide +kernel
theorem dX11_readSpan_79 : decode cX11_readSpan 79 = .ok (.ifCond .ne 7, 3) := by decide +kernel
theorem dX11_readSpan_82 : decode cX11_readSpan 82 = .ok (.iconst 4, 1) := by decide +kernel
theorem dX11_readSpan_83 : decode cX11_readSpan 83 = .ok (.goto 4, 3) := by decide +kernel
theorem dX11_readSpan_86 : decode cX11_readSpan 86 = .ok (.iconst 5, 1) := by decide +kernel
theorem dX11_readSpan_87 : decode cX11_readSpan 87 = .ok (.iastore, 1) := by decide +kernel
theorem dX11_readSpan_88 : decode cX11_readSpan 88 = .ok (.aload_n 0, 1) := by decide +kernel
theorem dX11_readSpan_89 : decode cX11_readSpan 89 = .ok (.invokevirtual 252, 3) := by decide +kernel
theorem dX11_readSpan_92 : decode cX11_readSpan 92 = .ok (.aload_n 0, 1) := by decide +kernel
theorem dX11_readSpan_93 : decode cX11_readSpan 93 = .ok (.iconst 2, 1) := by decide +kernel
theorem dX11_readSpan_94 : decode cX11_readSpan 94 = .ok (.invokevirtual 270, 3) := by decide +kernel
theorem dX11_readSpan_97 : decode cX11_readSpan 97 = .ok (.aload_n 0, 1) := by decide +kernel
theorem dX11_readSpan_98 : decode cX11_readSpan 98 = .ok (.iload_n 1, 1) := by decide +kernel
theorem dX11_readSpan_99 : decode cX11_readSpan 99 = .ok (.aload_n 0, 1) := by decide +kernel
theorem dX11_readSpan_100 : decode cX11_readSpan 100 = .ok (.getfield 232, 3) := by decide +kernel
theorem dX11_readSpan_103 : decode cX11_readSpan 103 = .ok (.invokevirtual 274, 3) := by decide +kernel
theorem dX11_readSpan_106 : decode cX11_readSpan 106 = .ok (.istore_n 3, 1) := by decide +kernel
theorem dX11_readSpan_107 : decode cX11_readSpan 107 = .ok (.iload_n 3, 1) := by decide +kernel
theorem dX11_readSpan_108 : decode cX11_readSpan 108 = .ok (.iconst (-1), 1) := by decide +kernel
theorem dX11_readSpan_109 : decode cX11_readSpan 109 = .ok (.if_icmp .eq 33, 3) := by decide +kernel
theorem dX11_readSpan_112 : decode cX11_readSpan 112 = .ok (.aload_n 0, 1) := by decide +kernel
theorem dX11_readSpan_113 : decode cX11_readSpan 113 = .ok (.getfield 50, 3) := by decide +kernel
theorem dX11_readSpan_116 : decode cX11_readSpan 116 = .ok (.bipush 8, 2) := by decide +kernel
theorem dX11_readSpan_118 : decode cX11_readSpan 118 = .ok (.iload_n 1, 1) := by decide +kernel
theorem dX11_readSpan_119 : decode cX11_readSpan 119 = .ok (.imul, 1) := by decide +kernel
theorem dX11_readSpan_120 : decode cX11_readSpan 120 = .ok (.iload_n 3, 1) := by decide +kernel
theorem dX11_readSpan_121 : decode cX11_readSpan 121 = .ok (.iadd, 1) := by decide +kernel
theorem dX11_readSpan_122 : decode cX11_readSpan 122 = .ok (.iaload, 1) := by decide +kernel
theorem dX11_readSpan_123 : decode cX11_readSpan 123 = .ok (.iconst 1, 1) := by decide +kernel
theorem dX11_readSpan_124 : decode cX11_readSpan 124 = .ok (.if_icmp .eq 28, 3) := by decide +kernel
theorem dX11_readSpan_127 : decode cX11_readSpan 127 = .ok (.aload_n 0, 1) := by decide +kernel
theorem dX11_readSpan_128 : decode cX11_readSpan 128 = .ok (.getfield 50, 3) := by decide +kernel
theorem dX11_readSpan_131 : decode cX11_readSpan 131 = .ok (.bipush 8, 2) := by decide +kernel
theorem dX11_readSpan_133 : decode cX11_readSpan 133 = .ok (.iload_n 1, 1) := by decide +kernel
theorem dX11_readSpan_134 : decode cX11_readSpan 134 = .ok (.imul, 1) := by decide +kernel
theorem dX11_readSpan_135 : decode cX11_readSpan 135 = .ok (.iload_n 3, 1) := by decide +kernel
theorem dX11_readSpan_136 : decode cX11_readSpan 136 = .ok (.iadd, 1) := by decide +kernel
theorem dX11_readSpan_137 : decode cX11_readSpan 137 = .ok (.iaload, 1) := by decide +kernel
theorem dX11_readSpan_138 : decode cX11_readSpan 138 = .ok (.iconst 4, 1) := by decide +kernel
theorem dX11_readSpan_139 : decode cX11_readSpan 139 = .ok (.if_icmp .ge 13, 3) := by decide +kernel
theorem dX11_readSpan_142 : decode cX11_readSpan 142 = .ok (.aload_n 0, 1) := by decide +kernel
theorem dX11_readSpan_143 : decode cX11_readSpan 143 = .ok (.iconst 2, 1) := by decide +kernel
theorem dX11_readSpan_144 : decode cX11_readSpan 144 = .ok (.aload_n 0, 1) := by decide +kernel
theorem dX11_readSpan_145 : decode cX11_readSpan 145 = .ok (.getfield 225, 3) := by decide +kernel
theorem dX11_readSpan_148 : decode cX11_readSpan 148 = .ok (.invokevirtual 249, 3) := by decide +kernel
theorem dX11_readSpan_151 : decode cX11_readSpan 151 = .ok (.athrow, 1) := by decide +kernel
theorem dX11_readSpan_152 : decode cX11_readSpan 152 = .ok (.aload_n 0, 1) := by decide +kernel
theorem dX11_readSpan_153 : decode cX11_readSpan 153 = .ok (.getfield 56, 3) := by decide +kernel
theorem dX11_readSpan_156 : decode cX11_readSpan 156 = .ok (.iload_n 2, 1) := by decide +kernel
theorem dX11_readSpan_157 : decode cX11_readSpan 157 = .ok (.iload_n 3, 1) := by decide +kernel
theorem dX11_readSpan_158 : decode cX11_readSpan 158 = .ok (.iastore, 1) := by decide +kernel
theorem dX11_readSpan_159 : decode cX11_readSpan 159 = .ok (.aload_n 0, 1) := by decide +kernel
theorem dX11_readSpan_160 : decode cX11_readSpan 160 = .ok (.invokevirtual 252, 3) := by decide +kernel
theorem dX11_readSpan_163 : decode cX11_readSpan 163 = .ok (.return_, 1) := by decide +kernel
theorem dX11_feed_0 : decode cX11_feed 0 = .ok (.aload_n 0, 1) := by decide +kernel
theorem dX11_feed_1 : decode cX11_feed 1 = .ok (.iconst 0, 1) := by decide +kernel
theorem dX11_feed_2 : decode cX11_feed 2 = .ok (.putfield 158, 3) := by decide +kernel
theorem dX11_feed_5 : decode cX11_feed 5 = .ok (.aload_n 0, 1) := by decide +kernel
theorem dX11_feed_6 : decode cX11_feed 6 = .ok (.getfield 264, 3) := by decide +kernel
theorem dX11_feed_9 : decode cX11_feed 9 = .ok (.bipush 20, 2) := by decide +kernel
theorem dX11_feed_11 : decode cX11_feed 11 = .ok (.iadd, 1) := by decide +kernel
theorem dX11_feed_12 : decode cX11_feed 12 = .ok (.sipush 400, 3) := by decide +kernel
theorem dX11_feed_15 : decode cX11_feed 15 = .ok (.if_icmp .le 5, 3) := by decide +kernel
theorem dX11_feed_18 : decode cX11_feed 18 = .ok (.iconst (-1), 1) := by decide +kernel
theorem dX11_feed_19 : decode cX11_feed 19 = .ok (.ireturn, 1) := by decide +kernel
theorem dX11_feed_20 : decode cX11_feed 20 = .ok (.iconst 0, 1) := by decide +kernel
theorem dX11_feed_21 : decode cX11_feed 21 = .ok (.istore 6, 2) := by decide +kernel
theorem dX11_feed_23 : decode cX11_feed 23 = .ok (.iload 6, 2) := by decide +kernel
theorem dX11_feed_25 : decode cX11_feed 25 = .ok (.bipush 20, 2) := by decide +kernel
theorem dX11_feed_27 : decode cX11_feed 27 = .ok (.if_icmp .ge 90, 3) := by decide +kernel
theorem dX11_feed_30 : decode cX11_feed 30 = .ok (.iload 6, 2) := by decide +kernel
theorem dX11_feed_32 : decode cX11_feed 32 = .ok (.iconst 4, 1) := by decide +kernel
theorem dX11_feed_33 : decode cX11_feed 33 = .ok (.if_icmp .ge 7, 3) := by decide +kernel
theorem dX11_feed_36 : decode cX11_feed 36 = .ok (.iload_n 1, 1) := by decide +kernel
theorem dX11_feed_37 : decode cX11_feed 37 = .ok (.goto 39, 3) := by decide +kernel
theorem dX11_feed_40 : decode cX11_feed 40 = .ok (.iload 6, 2) := by decide +kernel
theorem dX11_feed_42 : decode cX11_feed 42 = .ok (.bipush 8, 2) := by decide +kernel
theorem dX11_feed_44 : decode cX11_feed 44 = .ok (.if_icmp .ge 7, 3) := by decide +kernel
theorem dX11_feed_47 : decode cX11_feed 47 = .ok (.iload_n 2, 1) := by decide +kernel
theorem dX11_feed_48 : decode cX11_feed 48 = .ok (.goto 28, 3) := by decide +kernel
theorem dX11_feed_51 : decode cX11_feed 51 = .ok (.iload 6, 2) := by decide +kernel
theorem dX11_feed_53 : decode cX11_feed 53 = .ok (.bipush 12, 2) := by decide +kernel
theorem dX11_feed_55 : decode cX11_feed 55 = .ok (.if_icmp .ge 7, 3) := by decide +kernel
theorem dX11_feed_58 : decode cX11_feed 58 = .ok (.iload_n 3, 1) := by decide +kernel
theorem dX11_feed_59 : decode cX11_feed 59 = .ok (.goto 17, 3) := by decide +kernel
theorem dX11_feed_62 : decode cX11_feed 62 = .ok (.iload 6, 2) := by decide +kernel
theorem dX11_feed_64 : decode cX11_feed 64 = .ok (.bipush 16, 2) := by decide +kernel
theorem dX11_feed_66 : decode cX11_feed 66 = .ok (.if_icmp .ge 8, 3) := by decide +kernel
theorem dX11_feed_69 : decode cX11_feed 69 = .ok (.iload 4, 2) := by decide +kernel
theorem dX11_feed_71 : decode cX11_feed 71 = .ok (.goto 5, 3) := by decide +kernel
theorem dX11_feed_74 : decode cX11_feed 74 = .ok (.iload 5, 2) := by decide +kernel
theorem dX11_feed_76 : decode cX11_feed 76 = .ok (.istore 7, 2) := by decide +kernel
theorem dX11_feed_78 : decode cX11_feed 78 = .ok (.aload_n 0, 1) := by decide +kernel
theorem dX11_feed_79 : decode cX11_feed 79 = .ok (.getfield 43, 3) := by decide +kernel
theorem dX11_feed_82 : decode cX11_feed 82 = .ok (.aload_n 0, 1) := by decide +kernel
theorem dX11_feed_83 : decode cX11_feed 83 = .ok (.getfield 264, 3) := by decide +kernel
theorem dX11_feed_86 : decode cX11_feed 86 = .ok (.iload 7, 2) := by decide +kernel
theorem dX11_feed_88 : decode cX11_feed 88 = .ok (.bipush 24, 2) := by decide +kernel
theorem dX11_feed_90 : decode cX11_feed 90 = .ok (.bipush 8, 2) := by decide +kernel
theorem dX11_feed_92 : decode cX11_feed 92 = .ok (.iload 6, 2) := by decide +kernel
theorem dX11_feed_94 : decode cX11_feed 94 = .ok (.iconst 4, 1) := by decide +kernel
theorem dX11_feed_95 : decode cX11_feed 95 = .ok (.irem, 1) := by decide +kernel
theorem dX11_feed_96 : decode cX11_feed 96 = .ok (.imul, 1) := by decide +kernel
theorem dX11_feed_97 : decode cX11_feed 97 = .ok (.isub, 1) := by decide +kernel
theorem dX11_feed_98 : decode cX11_feed 98 = .ok (.ishr, 1) := by decide +kernel
theorem dX11_feed_99 : decode cX11_feed 99 = .ok (.i2b, 1) := by decide +kernel
theorem dX11_feed_100 : decode cX11_feed 100 = .ok (.bastore, 1) := by decide +kernel
theorem dX11_feed_101 : decode cX11_feed 101 = .ok (.aload_n 0, 1) := by decide +kernel
theorem dX11_feed_102 : decode cX11_feed 102 = .ok (.dup, 1) := by decide +kernel
theorem dX11_feed_103 : decode cX11_feed 103 = .ok (.getfield 264, 3) := by decide +kernel
theorem dX11_feed_106 : decode cX11_feed 106 = .ok (.iconst 1, 1) := by decide +kernel
theorem dX11_feed_107 : decode cX11_feed 107 = .ok (.iadd, 1) := by decide +kernel
theorem dX11_feed_108 : decode cX11_feed 108 = .ok (.putfield 264, 3) := by decide +kernel
theorem dX11_feed_111 : decode cX11_feed 111 = .ok (.iinc 6 1, 3) := by decide +kernel
theorem dX11_feed_114 : decode cX11_feed 114 = .ok (.goto (-91), 3) := by decide +kernel
theorem dX11_feed_117 : decode cX11_feed 117 = .ok (.aload_n 0, 1) := by decide +kernel
theorem dX11_feed_118 : decode cX11_feed 118 = .ok (.getfield 264, 3) := by decide +kernel
theorem dX11_feed_121 : decode cX11_feed 121 = .ok (.ireturn, 1) := by decide +kernel
theorem dX11_wrong_0 : decode cX11_wrong 0 = .ok (.aload_n 0, 1) := by decide +kernel
theorem dX11_wrong_1 : decode cX11_wrong 1 = .ok (.aload_n 1, 1) := by decide +kernel
theorem dX11_wrong_2 : decode cX11_wrong 2 = .ok (.getfield 211, 3) := by decide +kernel
theorem dX11_wrong_5 : decode cX11_wrong 5 = .ok (.putfield 267, 3) := by decide +kernel
theorem dX11_wrong_8 : decode cX11_wrong 8 = .ok (.aload_n 0, 1) := by decide +kernel
theorem dX11_wrong_9 : decode cX11_wrong 9 = .ok (.iconst 4, 1) := by decide +kernel
theorem dX11_wrong_10 : decode cX11_wrong 10 = .ok (.putfield 161, 3) := by decide +kernel
theorem dX11_wrong_13 : decode cX11_wrong 13 = .ok (.aload_n 0, 1) := by decide +kernel
theorem dX11_wrong_14 : decode cX11_wrong 14 = .ok (.aload_n 1, 1) := by decide +kernel
theorem dX11_wrong_15 : decode cX11_wrong 15 = .ok (.getfield 213, 3) := by decide +kernel
theorem dX11_wrong_18 : decode cX11_wrong 18 = .ok (.putfield 11, 3) := by decide +kernel
theorem dX11_wrong_21 : decode cX11_wrong 21 = .ok (.iconst (-1), 1) := by decide +kernel
theorem dX11_wrong_22 : decode cX11_wrong 22 = .ok (.ireturn, 1) := by decide +kernel
theorem dX11_form_0 : decode cX11_form 0 = .ok (.aload_n 0, 1) := by decide +kernel
theorem dX11_form_1 : decode cX11_form 1 = .ok (.iconst 0, 1) := by decide +kernel
theorem dX11_form_2 : decode cX11_form 2 = .ok (.putfield 158, 3) := by decide +kernel
theorem dX11_form_5 : decode cX11_form 5 = .ok (.iload_n 1, 1) := by decide +kernel
theorem dX11_form_6 : decode cX11_form 6 = .ok (.ifCond .lt 11, 3) := by decide +kernel
theorem dX11_form_9 : decode cX11_form 9 = .ok (.iload_n 1, 1) := by decide +kernel
theorem dX11_form_10 : decode cX11_form 10 = .ok (.aload_n 0, 1) := by decide +kernel
theorem dX11_form_11 : decode cX11_form 11 = .ok (.getfield 264, 3) := by decide +kernel
theorem dX11_form_14 : decode cX11_form 14 = .ok (.if_icmp .le 9, 3) := by decide +kernel
theorem dX11_form_17 : decode cX11_form 17 = .ok (.aload_n 0, 1) := by decide +kernel
theorem dX11_form_18 : decode cX11_form 18 = .ok (.iconst 2, 1) := by decide +kernel
theorem dX11_form_19 : decode cX11_form 19 = .ok (.invokevirtual 194, 3) := by decide +kernel
theorem dX11_form_22 : decode cX11_form 22 = .ok (.ireturn, 1) := by decide +kernel
theorem dX11_form_23 : decode cX11_form 23 = .ok (.aload_n 0, 1) := by decide +kernel
theorem dX11_form_24 : decode cX11_form 24 = .ok (.iload_n 1, 1) := by decide +kernel
theorem dX11_form_25 : decode cX11_form 25 = .ok (.invokevirtual 308, 3) := by decide +kernel
theorem dX11_form_28 : decode cX11_form 28 = .ok (.aload_n 0, 1) := by decide +kernel
theorem dX11_form_29 : decode cX11_form 29 = .ok (.invokevirtual 311, 3) := by decide +kernel
theorem dX11_form_32 : decode cX11_form 32 = .ok (.goto 10, 3) := by decide +kernel
theorem dX11_form_35 : decode cX11_form 35 = .ok (.astore_n 2, 1) := by decide +kernel
theorem dX11_form_36 : decode cX11_form 36 = .ok (.aload_n 0, 1) := by decide +kernel
theorem dX11_form_37 : decode cX11_form 37 = .ok (.aload_n 2, 1) := by decide +kernel
theorem dX11_form_38 : decode cX11_form 38 = .ok (.invokevirtual 314, 3) := by decide +kernel
theorem dX11_form_41 : decode cX11_form 41 = .ok (.ireturn, 1) := by decide +kernel
theorem dX11_form_42 : decode cX11_form 42 = .ok (.aload_n 0, 1) := by decide +kernel
theorem dX11_form_43 : decode cX11_form 43 = .ok (.getfield 170, 3) := by decide +kernel
theorem dX11_form_46 : decode cX11_form 46 = .ok (.bipush 12, 2) := by decide +kernel
theorem dX11_form_48 : decode cX11_form 48 = .ok (.if_icmp .ne 9, 3) := by decide +kernel
theorem dX11_form_51 : decode cX11_form 51 = .ok (.aload_n 0, 1) := by decide +kernel
theorem dX11_form_52 : decode cX11_form 52 = .ok (.iconst 3, 1) := by decide +kernel
theorem dX11_form_53 : decode cX11_form 53 = .ok (.invokevirtual 194, 3) := by decide +kernel
theorem dX11_form_56 : decode cX11_form 56 = .ok (.ireturn, 1) := by decide +kernel
theorem dX11_form_57 : decode cX11_form 57 = .ok (.aload_n 0, 1) := by decide +kernel
theorem dX11_form_58 : decode cX11_form 58 = .ok (.iconst 1, 1) := by decide +kernel
theorem dX11_form_59 : decode cX11_form 59 = .ok (.aload_n 0, 1) := by decide +kernel
theorem dX11_form_60 : decode cX11_form 60 = .ok (.getfield 170, 3) := by decide +kernel
theorem dX11_form_63 : decode cX11_form 63 = .ok (.lconst 0, 1) := by decide +kernel
theorem dX11_form_64 : decode cX11_form 64 = .ok (.lconst 0, 1) := by decide +kernel
theorem dX11_form_65 : decode cX11_form 65 = .ok (.invokevirtual 183, 3) := by decide +kernel
theorem dX11_form_68 : decode cX11_form 68 = .ok (.aload_n 0, 1) := by decide +kernel
theorem dX11_form_69 : decode cX11_form 69 = .ok (.dup, 1) := by decide +kernel
theorem dX11_form_70 : decode cX11_form 70 = .ok (.getfield 170, 3) := by decide +kernel
theorem dX11_form_73 : decode cX11_form 73 = .ok (.iconst 1, 1) := by decide +kernel
theorem dX11_form_74 : decode cX11_form 74 = .ok (.iadd, 1) := by decide +kernel
theorem dX11_form_75 : decode cX11_form 75 = .ok (.putfield 170, 3) := by decide +kernel
theorem dX11_form_78 : decode cX11_form 78 = .ok (.aload_n 0, 1) := by decide +kernel
theorem dX11_form_79 : decode cX11_form 79 = .ok (.aload_n 0, 1) := by decide +kernel
theorem dX11_form_80 : decode cX11_form 80 = .ok (.getfield 170, 3) := by decide +kernel
theorem dX11_form_83 : decode cX11_form 83 = .ok (.iconst 1, 1) := by decide +kernel
theorem dX11_form_84 : decode cX11_form 84 = .ok (.isub, 1) := by decide +kernel
theorem dX11_form_85 : decode cX11_form 85 = .ok (.invokevirtual 190, 3) := by decide +kernel
theorem dX11_form_88 : decode cX11_form 88 = .ok (.ireturn, 1) := by decide +kernel
theorem dX11_isForm_0 : decode cX11_isForm 0 = .ok (.iload_n 1, 1) := by decide +kernel
theorem dX11_isForm_1 : decode cX11_isForm 1 = .ok (.ifCond .lt 15, 3) := by decide +kernel
theorem dX11_isForm_4 : decode cX11_isForm 4 = .ok (.iload_n 1, 1) := by decide +kernel
theorem dX11_isForm_5 : decode cX11_isForm 5 = .ok (.aload_n 0, 1) := by decide +kernel
theorem dX11_isForm_6 : decode cX11_isForm 6 = .ok (.getfield 170, 3) := by decide +kernel
theorem dX11_isForm_9 : decode cX11_isForm 9 = .ok (.if_icmp .ge 7, 3) := by decide +kernel
theorem dX11_isForm_12 : decode cX11_isForm 12 = .ok (.iconst 1, 1) := by decide +kernel
theorem dX11_isForm_13 : decode cX11_isForm 13 = .ok (.goto 4, 3) := by decide +kernel
theorem dX11_isForm_16 : decode cX11_isForm 16 = .ok (.iconst 0, 1) := by decide +kernel
theorem dX11_isForm_17 : decode cX11_isForm 17 = .ok (.ireturn, 1) := by decide +kernel
theorem dX11_field_0 : decode cX11_field 0 = .ok (.aload_n 0, 1) := by decide +kernel
theorem dX11_field_1 : decode cX11_field 1 = .ok (.iconst 0, 1) := by decide +kernel
theorem dX11_field_2 : decode cX11_field 2 = .ok (.putfield 158, 3) := by decide +kernel
theorem dX11_field_5 : decode cX11_field 5 = .ok (.aload_n 0, 1) := by decide +kernel
theorem dX11_field_6 : decode cX11_field 6 = .ok (.iload_n 1, 1) := by decide +kernel
theorem dX11_field_7 : decode cX11_field 7 = .ok (.invokevirtual 318, 3) := by decide +kernel
theorem dX11_field_10 : decode cX11_field 10 = .ok (.ifCond .eq 17, 3) := by decide +kernel
theorem dX11_field_13 : decode cX11_field 13 = .ok (.iload_n 2, 1) := by decide +kernel
theorem dX11_field_14 : decode cX11_field 14 = .ok (.ifCond .lt 13, 3) := by decide +kernel
theorem dX11_field_17 : decode cX11_field 17 = .ok (.iload_n 2, 1) := by decide +kernel
theorem dX11_field_18 : decode cX11_field 18 = .ok (.aload_n 0, 1) := by decide +kernel
theorem dX11_field_19 : decode cX11_field 19 = .ok (.getfield 47, 3) := by decide +kernel
theorem dX11_field_22 : decode cX11_field 22 = .ok (.iload_n 1, 1) := by decide +kernel
theorem dX11_field_23 : decode cX11_field 23 = .ok (.iaload, 1) := by decide +kernel
theorem dX11_field_24 : decode cX11_field 24 = .ok (.if_icmp .lt 5, 3) := by decide +kernel
theorem dX11_field_27 : decode cX11_field 27 = .ok (.iconst (-1), 1) := by decide +kernel
theorem dX11_field_28 : decode cX11_field 28 = .ok (.ireturn, 1) := by decide +kernel
theorem dX11_field_29 : decode cX11_field 29 = .ok (.bipush 8, 2) := by decide +kernel
theorem dX11_field_31 : decode cX11_field 31 = .ok (.iload_n 1, 1) := by decide +kernel
theorem dX11_field_32 : decode cX11_field 32 = .ok (.imul, 1) := by decide +kernel
theorem dX11_field_33 : decode cX11_field 33 = .ok (.iload_n 2, 1) := by decide +kernel
theorem dX11_field_34 : decode cX11_field 34 = .ok (.iadd, 1) := by decide +kernel
theorem dX11_field_35 : decode cX11_field 35 = .ok (.istore 4, 2) := by decide +kernel
theorem dX11_field_37 : decode cX11_field 37 = .ok (.iload_n 3, 1) := by decide +kernel
theorem dX11_field_38 : decode cX11_field 38 = .ok (.tableswitch 70 0 3 #[30, 38, 54, 62], 30) := by decide +kernel
theorem dX11_field_68 : decode cX11_field 68 = .ok (.aload_n 0, 1) := by decide +kernel
theorem dX11_field_69 : decode cX11_field 69 = .ok (.getfield 50, 3) := by decide +kernel
theorem dX11_field_72 : decode cX11_field 72 = .ok (.iload 4, 2) := by decide +kernel
theorem dX11_field_74 : decode cX11_field 74 = .ok (.iaload, 1) := by decide +kernel
theorem dX11_field_75 : decode cX11_field 75 = .ok (.ireturn, 1) := by decide +kernel
theorem dX11_field_76 : decode cX11_field 76 = .ok (.aload_n 0, 1) := by decide +kernel
theorem dX11_field_77 : decode cX11_field 77 = .ok (.getfield 59, 3) := by decide +kernel
theorem dX11_field_80 : decode cX11_field 80 = .ok (.iload 4, 2) := by decide +kernel
theorem dX11_field_82 : decode cX11_field 82 = .ok (.baload, 1) := by decide +kernel
theorem dX11_field_83 : decode cX11_field 83 = .ok (.ifCond .eq 7, 3) := by decide +kernel
theorem dX11_field_86 : decode cX11_field 86 = .ok (.iconst 1, 1) := by decide +kernel
theorem dX11_field_87 : decode cX11_field 87 = .ok (.goto 4, 3) := by decide +kernel
theorem dX11_field_90 : decode cX11_field 90 = .ok (.iconst 0, 1) := by decide +kernel
theorem dX11_field_91 : decode cX11_field 91 = .ok (.ireturn, 1) := by decide +kernel
theorem dX11_field_92 : decode cX11_field 92 = .ok (.aload_n 0, 1) := by decide +kernel
theorem dX11_field_93 : decode cX11_field 93 = .ok (.getfield 53, 3) := by decide +kernel
theorem dX11_field_96 : decode cX11_field 96 = .ok (.iload 4, 2) := by decide +kernel
theorem dX11_field_98 : decode cX11_field 98 = .ok (.iaload, 1) := by decide +kernel
theorem dX11_field_99 : decode cX11_field 99 = .ok (.ireturn, 1) := by decide +kernel
theorem dX11_field_100 : decode cX11_field 100 = .ok (.aload_n 0, 1) := by decide +kernel
theorem dX11_field_101 : decode cX11_field 101 = .ok (.getfield 56, 3) := by decide +kernel
theorem dX11_field_104 : decode cX11_field 104 = .ok (.iload 4, 2) := by decide +kernel
theorem dX11_field_106 : decode cX11_field 106 = .ok (.iaload, 1) := by decide +kernel
theorem dX11_field_107 : decode cX11_field 107 = .ok (.ireturn, 1) := by decide +kernel
theorem dX11_field_108 : decode cX11_field 108 = .ok (.iconst (-1), 1) := by decide +kernel
theorem dX11_field_109 : decode cX11_field 109 = .ok (.ireturn, 1) := by decide +kernel
theorem dX11_fields_0 : decode cX11_fields 0 = .ok (.aload_n 0, 1) := by decide +kernel
theorem dX11_fields_1 : decode cX11_fields 1 = .ok (.iconst 0, 1) := by decide +kernel
theorem dX11_fields_2 : decode cX11_fields 2 = .ok (.putfield 158, 3) := by decide +kernel
theorem dX11_fields_5 : decode cX11_fields 5 = .ok (.aload_n 0, 1) := by decide +kernel
theorem dX11_fields_6 : decode cX11_fields 6 = .ok (.iload_n 1, 1) := by decide +kernel
theorem dX11_fields_7 : decode cX11_fields 7 = .ok (.invokevirtual 318, 3) := by decide +kernel
theorem dX11_fields_10 : decode cX11_fields 10 = .ok (.ifCond .eq 12, 3) := by decide +kernel
theorem dX11_fields_13 : decode cX11_fields 13 = .ok (.aload_n 0, 1) := by decide +kernel
theorem dX11_fields_14 : decode cX11_fields 14 = .ok (.getfield 47, 3) := by decide +kernel
theorem dX11_fields_17 : decode cX11_fields 17 = .ok (.iload_n 1, 1) := by decide +kernel
theorem dX11_fields_18 : decode cX11_fields 18 = .ok (.iaload, 1) := by decide +kernel
theorem dX11_fields_19 : decode cX11_fields 19 = .ok (.goto 4, 3) := by decide +kernel
theorem dX11_fields_22 : decode cX11_fields 22 = .ok (.iconst (-1), 1) := by decide +kernel
theorem dX11_fields_23 : decode cX11_fields 23 = .ok (.ireturn, 1) := by decide +kernel
theorem dX11_readNotice_0 : decode cX11_readNotice 0 = .ok (.aload_n 0, 1) := by decide +kernel
theorem dX11_readNotice_1 : decode cX11_readNotice 1 = .ok (.getfield 173, 3) := by decide +kernel
theorem dX11_readNotice_4 : decode cX11_readNotice 4 = .ok (.istore_n 2, 1) := by decide +kernel
theorem dX11_readNotice_5 : decode cX11_readNotice 5 = .ok (.iconst 0, 1) := by decide +kernel
theorem dX11_readNotice_6 : decode cX11_readNotice 6 = .ok (.istore_n 3, 1) := by decide +kernel
theorem dX11_readNotice_7 : decode cX11_readNotice 7 = .ok (.iload_n 3, 1) := by decide +kernel
theorem dX11_readNotice_8 : decode cX11_readNotice 8 = .ok (.bipush 8, 2) := by decide +kernel
theorem dX11_readNotice_10 : decode cX11_readNotice 10 = .ok (.if_icmp .ge 21, 3) := by decide +kernel
theorem dX11_readNotice_13 : decode cX11_readNotice 13 = .ok (.aload_n 0, 1) := by decide +kernel
theorem dX11_readNotice_14 : decode cX11_readNotice 14 = .ok (.getfield 101, 3) := by decide +kernel
theorem dX11_readNotice_17 : decode cX11_readNotice 17 = .ok (.bipush 8, 2) := by decide +kernel
theorem dX11_readNotice_19 : decode cX11_readNotice 19 = .ok (.iload_n 2, 1) := by decide +kernel
theorem dX11_readNotice_20 : decode cX11_readNotice 20 = .ok (.imul, 1) := by decide +kernel
theorem dX11_readNotice_21 : decode cX11_readNotice 21 = .ok (.iload_n 3, 1) := by decide +kernel
theorem dX11_readNotice_22 : decode cX11_readNotice 22 = .ok (.iadd, 1) := by decide +kernel
theorem dX11_readNotice_23 : decode cX11_readNotice 23 = .ok (.iconst 0, 1) := by decide +kernel
theorem dX11_readNotice_24 : decode cX11_readNotice 24 = .ok (.bastore, 1) := by decide +kernel
theorem dX11_readNotice_25 : decode cX11_readNotice 25 = .ok (.iinc 3 1, 3) := by decide +kernel
theorem dX11_readNotice_28 : decode cX11_readNotice 28 = .ok (.goto (-21), 3) := by decide +kernel
theorem dX11_readNotice_31 : decode cX11_readNotice 31 = .ok (.iconst 1, 1) := by decide +kernel
theorem dX11_readNotice_32 : decode cX11_readNotice 32 = .ok (.istore_n 3, 1) := by decide +kernel
theorem dX11_readNotice_33 : decode cX11_readNotice 33 = .ok (.iload_n 3, 1) := by decide +kernel
theorem dX11_readNotice_34 : decode cX11_readNotice 34 = .ok (.ifCond .eq 170, 3) := by decide +kernel
theorem dX11_readNotice_37 : decode cX11_readNotice 37 = .ok (.aload_n 0, 1) := by decide +kernel
theorem dX11_readNotice_38 : decode cX11_readNotice 38 = .ok (.iconst 2, 1) := by decide +kernel
theorem dX11_readNotice_39 : decode cX11_readNotice 39 = .ok (.invokevirtual 270, 3) := by decide +kernel
theorem dX11_readNotice_42 : decode cX11_readNotice 42 = .ok (.aload_n 0, 1) := by decide +kernel
theorem dX11_readNotice_43 : decode cX11_readNotice 43 = .ok (.iload_n 1, 1) := by decide +kernel
theorem dX11_readNotice_44 : decode cX11_readNotice 44 = .ok (.aload_n 0, 1) := by decide +kernel
theorem dX11_readNotice_45 : decode cX11_readNotice 45 = .ok (.getfield 232, 3) := by decide +kernel
theorem dX11_readNotice_48 : decode cX11_readNotice 48 = .ok (.invokevirtual 274, 3) := by decide +kernel
theorem dX11_readNotice_51 : decode cX11_readNotice 51 = .ok (.istore 4, 2) := by decide +kernel
theorem dX11_readNotice_53 : decode cX11_readNotice 53 = .ok (.iload 4, 2) := by decide +kernel
theorem dX11_readNotice_55 : decode cX11_readNotice 55 = .ok (.iconst (-1), 1) := by decide +kernel
theorem dX11_readNotice_56 : decode cX11_readNotice 56 = .ok (.if_icmp .eq 19, 3) := by decide +kernel
theorem dX11_readNotice_59 : decode cX11_readNotice 59 = .ok (.aload_n 0, 1) := by decide +kernel
theorem dX11_readNotice_60 : decode cX11_readNotice 60 = .ok (.getfield 50, 3) := by decide +kernel
theorem dX11_readNotice_63 : decode cX11_readNotice 63 = .ok (.bipush 8, 2) := by decide +kernel
theorem dX11_readNotice_65 : decode cX11_readNotice 65 = .ok (.iload_n 1, 1) := by decide +kernel
theorem dX11_readNotice_66 : decode cX11_readNotice 66 = .ok (.imul, 1) := by decide +kernel
theorem dX11_readNotice_67 : decode cX11_readNotice 67 = .ok (.iload 4, 2) := by decide +kernel
theorem dX11_readNotice_69 : decode cX11_readNotice 69 = .ok (.iadd, 1) := by decide +kernel
theorem dX11_readNotice_70 : decode cX11_readNotice 70 = .ok (.iaload, 1) := by decide +kernel
theorem dX11_readNotice_71 : decode cX11_readNotice 71 = .ok (.iconst 4, 1) := by decide +kernel
theorem dX11_readNotice_72 : decode cX11_readNotice 72 = .ok (.if_icmp .lt 13, 3) := by decide +kernel
theorem dX11_readNotice_75 : decode cX11_readNotice 75 = .ok (.aload_n 0, 1) := by decide +kernel
theorem dX11_readNotice_76 : decode cX11_readNotice 76 = .ok (.iconst 2, 1) := by decide +kernel
theorem dX11_readNotice_77 : decode cX11_readNotice 77 = .ok (.aload_n 0, 1) := by decide +kernel
theorem dX11_readNotice_78 : decode cX11_readNotice 78 = .ok (.getfield 225, 3) := by decide +kernel
theorem dX11_readNotice_81 : decode cX11_readNotice 81 = .ok (.invokevirtual 249, 3) := by decide +kernel
theorem dX11_readNotice_84 : decode cX11_readNotice 84 = .ok (.athrow, 1) := by decide +kernel
theorem dX11_readNotice_85 : decode cX11_readNotice 85 = .ok (.aload_n 0, 1) := by decide +kernel
theorem dX11_readNotice_86 : decode cX11_readNotice 86 = .ok (.getfield 101, 3) := by decide +kernel
theorem dX11_readNotice_89 : decode cX11_readNotice 89 = .ok (.bipush 8, 2) := by decide +kernel
theorem dX11_readNotice_91 : decode cX11_readNotice 91 = .ok (.iload_n 2, 1) := by decide +kernel
theorem dX11_readNotice_92 : decode cX11_readNotice 92 = .ok (.imul, 1) := by decide +kernel
theorem dX11_readNotice_93 : decode cX11_readNotice 93 = .ok (.iload 4, 2) := by decide +kernel
theorem dX11_readNotice_95 : decode cX11_readNotice 95 = .ok (.iadd, 1) := by decide +kernel
theorem dX11_readNotice_96 : decode cX11_readNotice 96 = .ok (.baload, 1) := by decide +kernel
theorem dX11_readNotice_97 : decode cX11_readNotice 97 = .ok (.ifCond .eq 13, 3) := by decide +kernel
theorem dX11_readNotice_100 : decode cX11_readNotice 100 = .ok (.aload_n 0, 1) := by decide +kernel
theorem dX11_readNotice_101 : decode cX11_readNotice 101 = .ok (.iconst 3, 1) := by decide +kernel
theorem dX11_readNotice_102 : decode cX11_readNotice 102 = .ok (.aload_n 0, 1) := by decide +kernel
theorem dX11_readNotice_103 : decode cX11_readNotice 103 = .ok (.getfield 225, 3) := by decide +kernel
theorem dX11_readNotice_106 : decode cX11_readNotice 106 = .ok (.invokevirtual 249, 3) := by decide +kernel
theorem dX11_readNotice_109 : decode cX11_readNotice 109 = .ok (.athrow, 1) := by decide +kernel
theorem dX11_readNotice_110 : decode cX11_readNotice 110 = .ok (.aload_n 0, 1) := by decide +kernel
theorem dX11_readNotice_111 : decode cX11_readNotice 111 = .ok (.invokevirtual 252, 3) := by decide +kernel
theorem dX11_readNotice_114 : decode cX11_readNotice 114 = .ok (.aload_n 0, 1) := by decide +kernel
theorem dX11_readNotice_115 : decode cX11_readNotice 115 = .ok (.bipush 61, 2) := by decide +kernel
theorem dX11_readNotice_117 : decode cX11_readNotice 117 = .ok (.invokevirtual 278, 3) := by decide +kernel
theorem dX11_readNotice_120 : decode cX11_readNotice 120 = .ok (.aload_n 0, 1) := by decide +kernel
theorem dX11_readNotice_121 : decode cX11_readNotice 121 = .ok (.getfield 226, 3) := by decide +kernel
theorem dX11_readNotice_124 : decode cX11_readNotice 124 = .ok (.iconst 2, 1) := by decide +kernel
theorem dX11_readNotice_125 : decode cX11_readNotice 125 = .ok (.if_icmp .eq 21, 3) := by decide +kernel
theorem dX11_readNotice_128 : decode cX11_readNotice 128 = .ok (.aload_n 0, 1) := by decide +kernel
theorem dX11_readNotice_129 : decode cX11_readNotice 129 = .ok (.getfield 226, 3) := by decide +kernel
theorem dX11_readNotice_132 : decode cX11_readNotice 132 = .ok (.iconst 3, 1) := by decide +kernel
theorem dX11_readNotice_133 : decode cX11_readNotice 133 = .ok (.if_icmp .eq 13, 3) := by decide +kernel
theorem dX11_readNotice_136 : decode cX11_readNotice 136 = .ok (.aload_n 0, 1) := by decide +kernel
theorem dX11_readNotice_137 : decode cX11_readNotice 137 = .ok (.iconst 1, 1) := by decide +kernel
theorem dX11_readNotice_138 : decode cX11_readNotice 138 = .ok (.aload_n 0, 1) := by decide +kernel
theorem dX11_readNotice_139 : decode cX11_readNotice 139 = .ok (.getfield 225, 3) := by decide +kernel
theorem dX11_readNotice_142 : decode cX11_readNotice 142 = .ok (.invokevirtual 249, 3) := by decide +kernel
theorem dX11_readNotice_145 : decode cX11_readNotice 145 = .ok (.athrow, 1) := by decide +kernel
theorem dX11_readNotice_146 : decode cX11_readNotice 146 = .ok (.aload_n 0, 1) := by decide +kernel
theorem dX11_readNotice_147 : decode cX11_readNotice 147 = .ok (.getfield 89, 3) := by decide +kernel
theorem dX11_readNotice_150 : decode cX11_readNotice 150 = .ok (.bipush 8, 2) := by decide +kernel
theorem dX11_readNotice_152 : decode cX11_readNotice 152 = .ok (.iload_n 2, 1) := by decide +kernel
theorem dX11_readNotice_153 : decode cX11_readNotice 153 = .ok (.imul, 1) := by decide +kernel
theorem dX11_readNotice_154 : decode cX11_readNotice 154 = .ok (.iload 4, 2) := by decide +kernel
theorem dX11_readNotice_156 : decode cX11_readNotice 156 = .ok (.iadd, 1) := by decide +kernel
theorem dX11_readNotice_157 : decode cX11_readNotice 157 = .ok (.aload_n 0, 1) := by decide +kernel
theorem dX11_readNotice_158 : decode cX11_readNotice 158 = .ok (.bipush 8, 2) := by decide +kernel
theorem dX11_readNotice_160 : decode cX11_readNotice 160 = .ok (.iload_n 1, 1) := by decide +kernel
theorem dX11_readNotice_161 : decode cX11_readNotice 161 = .ok (.imul, 1) := by decide +kernel
theorem dX11_readNotice_162 : decode cX11_readNotice 162 = .ok (.iload 4, 2) := by decide +kernel
theorem dX11_readNotice_164 : decode cX11_readNotice 164 = .ok (.iadd, 1) := by decide +kernel
theorem dX11_readNotice_165 : decode cX11_readNotice 165 = .ok (.invokevirtual 321, 3) := by decide +kernel
theorem dX11_readNotice_168 : decode cX11_readNotice 168 = .ok (.lastore, 1) := by decide +kernel
theorem dX11_readNotice_169 : decode cX11_readNotice 169 = .ok (.aload_n 0, 1) := by decide +kernel
theorem dX11_readNotice_170 : decode cX11_readNotice 170 = .ok (.getfield 101, 3) := by decide +kernel
theorem dX11_readNotice_173 : decode cX11_readNotice 173 = .ok (.bipush 8, 2) := by decide +kernel
theorem dX11_readNotice_175 : decode cX11_readNotice 175 = .ok (.iload_n 2, 1) := by decide +kernel
theorem dX11_readNotice_176 : decode cX11_readNotice 176 = .ok (.imul, 1) := by decide +kernel
theorem dX11_readNotice_177 : decode cX11_readNotice 177 = .ok (.iload 4, 2) := by decide +kernel
theorem dX11_readNotice_179 : decode cX11_readNotice 179 = .ok (.iadd, 1) := by decide +kernel
theorem dX11_readNotice_180 : decode cX11_readNotice 180 = .ok (.iconst 1, 1) := by decide +kernel
theorem dX11_readNotice_181 : decode cX11_readNotice 181 = .ok (.bastore, 1) := by decide +kernel
theorem dX11_readNotice_182 : decode cX11_readNotice 182 = .ok (.aload_n 0, 1) := by decide +kernel
theorem dX11_readNotice_183 : decode cX11_readNotice 183 = .ok (.invokevirtual 252, 3) := by decide +kernel
theorem dX11_readNotice_186 : decode cX11_readNotice 186 = .ok (.aload_n 0, 1) := by decide +kernel
theorem dX11_readNotice_187 : decode cX11_readNotice 187 = .ok (.bipush 59, 2) := by decide +kernel
theorem dX11_readNotice_189 : decode cX11_readNotice 189 = .ok (.invokevirtual 246, 3) := by decide +kernel
theorem dX11_readNotice_192 : decode cX11_readNotice 192 = .ok (.istore_n 3, 1) := by decide +kernel
theorem dX11_readNotice_193 : decode cX11_readNotice 193 = .ok (.iload_n 3, 1) := by decide +kernel
theorem dX11_readNotice_194 : decode cX11_readNotice 194 = .ok (.ifCond .eq 7, 3) := by decide +kernel
theorem dX11_readNotice_197 : decode cX11_readNotice 197 = .ok (.aload_n 0, 1) := by decide +kernel
theorem dX11_readNotice_198 : decode cX11_readNotice 198 = .ok (.invokevirtual 252, 3) := by decide +kernel
theorem dX11_readNotice_201 : decode cX11_readNotice 201 = .ok (.goto (-168), 3) := by decide +kernel
theorem dX11_readNotice_204 : decode cX11_readNotice 204 = .ok (.aload_n 0, 1) := by decide +kernel
theorem dX11_readNotice_205 : decode cX11_readNotice 205 = .ok (.iconst 1, 1) := by decide +kernel
theorem dX11_readNotice_206 : decode cX11_readNotice 206 = .ok (.invokevirtual 270, 3) := by decide +kernel
theorem dX11_readNotice_209 : decode cX11_readNotice 209 = .ok (.iconst 0, 1) := by decide +kernel
theorem dX11_readNotice_210 : decode cX11_readNotice 210 = .ok (.istore 4, 2) := by decide +kernel
theorem dX11_readNotice_212 : decode cX11_readNotice 212 = .ok (.iload 4, 2) := by decide +kernel
theorem dX11_readNotice_214 : decode cX11_readNotice 214 = .ok (.aload_n 0, 1) := by decide +kernel
theorem dX11_readNotice_215 : decode cX11_readNotice 215 = .ok (.getfield 47, 3) := by decide +kernel
theorem dX11_readNotice_218 : decode cX11_readNotice 218 = .ok (.iload_n 1, 1) := by decide +kernel
theorem dX11_readNotice_219 : decode cX11_readNotice 219 = .ok (.iaload, 1) := by decide +kernel
theorem dX11_readNotice_220 : decode cX11_readNotice 220 = .ok (.if_icmp .ge 75, 3) := by decide +kernel
theorem dX11_readNotice_223 : decode cX11_readNotice 223 = .ok (.aload_n 0, 1) := by decide +kernel
theorem dX11_readNotice_224 : decode cX11_readNotice 224 = .ok (.getfield 101, 3) := by decide +kernel
theorem dX11_readNotice_227 : decode cX11_readNotice 227 = .ok (.bipush 8, 2) := by decide +kernel
theorem dX11_readNotice_229 : decode cX11_readNotice 229 = .ok (.iload_n 2, 1) := by decide +kernel
theorem dX11_readNotice_230 : decode cX11_readNotice 230 = .ok (.imul, 1) := by decide +kernel
theorem dX11_readNotice_231 : decode cX11_readNotice 231 = .ok (.iload 4, 2) := by decide +kernel
theorem dX11_readNotice_233 : decode cX11_readNotice 233 = .ok (.iadd, 1) := by decide +kernel
theorem dX11_readNotice_234 : decode cX11_readNotice 234 = .ok (.baload, 1) := by decide +kernel
theorem dX11_readNotice_235 : decode cX11_readNotice 235 = .ok (.ifCond .ne 54, 3) := by decide +kernel
theorem dX11_readNotice_238 : decode cX11_readNotice 238 = .ok (.aload_n 0, 1) := by decide +kernel
theorem dX11_readNotice_239 : decode cX11_readNotice 239 = .ok (.getfield 59, 3) := by decide +kernel
theorem dX11_readNotice_242 : decode cX11_readNotice 242 = .ok (.bipush 8, 2) := by decide +kernel
theorem dX11_readNotice_244 : decode cX11_readNotice 244 = .ok (.iload_n 1, 1) := by decide +kernel
theorem dX11_readNotice_245 : decode cX11_readNotice 245 = .ok (.imul, 1) := by decide +kernel
theorem dX11_readNotice_246 : decode cX11_readNotice 246 = .ok (.iload 4, 2) := by decide +kernel
theorem dX11_readNotice_248 : decode cX11_readNotice 248 = .ok (.iadd, 1) := by decide +kernel
theorem dX11_readNotice_249 : decode cX11_readNotice 249 = .ok (.baload, 1) := by decide +kernel
theorem dX11_readNotice_250 : decode cX11_readNotice 250 = .ok (.ifCond .ne 39, 3) := by decide +kernel
theorem dX11_readNotice_253 : decode cX11_readNotice 253 = .ok (.aload_n 0, 1) := by decide +kernel
theorem dX11_readNotice_254 : decode cX11_readNotice 254 = .ok (.getfield 50, 3) := by decide +kernel
theorem dX11_readNotice_257 : decode cX11_readNotice 257 = .ok (.bipush 8, 2) := by decide +kernel
theorem dX11_readNotice_259 : decode cX11_readNotice 259 = .ok (.iload_n 1, 1) := by decide +kernel
theorem dX11_readNotice_260 : decode cX11_readNotice 260 = .ok (.imul, 1) := by decide +kernel
theorem dX11_readNotice_261 : decode cX11_readNotice 261 = .ok (.iload 4, 2) := by decide +kernel
theorem dX11_readNotice_263 : decode cX11_readNotice 263 = .ok (.iadd, 1) := by decide +kernel
theorem dX11_readNotice_264 : decode cX11_readNotice 264 = .ok (.iaload, 1) := by decide +kernel
theorem dX11_readNotice_265 : decode cX11_readNotice 265 = .ok (.iconst 4, 1) := by decide +kernel
theorem dX11_readNotice_266 : decode cX11_readNotice 266 = .ok (.if_icmp .lt 6, 3) := by decide +kernel
theorem dX11_readNotice_269 : decode cX11_readNotice 269 = .ok (.goto 20, 3) := by decide +kernel
theorem dX11_readNotice_272 : decode cX11_readNotice 272 = .ok (.aload_n 0, 1) := by decide +kernel
theorem dX11_readNotice_273 : decode cX11_readNotice 273 = .ok (.iload 4, 2) := by decide +kernel
theorem dX11_readNotice_275 : decode cX11_readNotice 275 = .ok (.putfield 15, 3) := by decide +kernel
theorem dX11_readNotice_278 : decode cX11_readNotice 278 = .ok (.aload_n 0, 1) := by decide +kernel
theorem dX11_readNotice_279 : decode cX11_readNotice 279 = .ok (.bipush 6, 2) := by decide +kernel
theorem dX11_readNotice_281 : decode cX11_readNotice 281 = .ok (.aload_n 0, 1) := by decide +kernel
theorem dX11_readNotice_282 : decode cX11_readNotice 282 = .ok (.getfield 225, 3) := by decide +kernel
theorem dX11_readNotice_285 : decode cX11_readNotice 285 = .ok (.invokevirtual 249, 3) := by decide +kernel
theorem dX11_readNotice_288 : decode cX11_readNotice 288 = .ok (.athrow, 1) := by decide +kernel
theorem dX11_readNotice_289 : decode cX11_readNotice 289 = .ok (.iinc 4 1, 3) := by decide +kernel
theorem dX11_readNotice_292 : decode cX11_readNotice 292 = .ok (.goto (-80), 3) := by decide +kernel
theorem dX11_readNotice_295 : decode cX11_readNotice 295 = .ok (.return_, 1) := by decide +kernel
theorem dX11_valueBy_0 : decode cX11_valueBy 0 = .ok (.aload_n 0, 1) := by decide +kernel
theorem dX11_valueBy_1 : decode cX11_valueBy 1 = .ok (.getfield 50, 3) := by decide +kernel
theorem dX11_valueBy_4 : decode cX11_valueBy 4 = .ok (.iload_n 1, 1) := by decide +kernel
theorem dX11_valueBy_5 : decode cX11_valueBy 5 = .ok (.iaload, 1) := by decide +kernel
theorem dX11_valueBy_6 : decode cX11_valueBy 6 = .ok (.ifCond .eq 13, 3) := by decide +kernel
theorem dX11_valueBy_9 : decode cX11_valueBy 9 = .ok (.aload_n 0, 1) := by decide +kernel
theorem dX11_valueBy_10 : decode cX11_valueBy 10 = .ok (.getfield 50, 3) := by decide +kernel
theorem dX11_valueBy_13 : decode cX11_valueBy 13 = .ok (.iload_n 1, 1) := by decide +kernel
theorem dX11_valueBy_14 : decode cX11_valueBy 14 = .ok (.iaload, 1) := by decide +kernel
theorem dX11_valueBy_15 : decode cX11_valueBy 15 = .ok (.iconst 1, 1) := by decide +kernel
theorem dX11_valueBy_16 : decode cX11_valueBy 16 = .ok (.if_icmp .ne 7, 3) := by decide +kernel
theorem dX11_valueBy_19 : decode cX11_valueBy 19 = .ok (.iconst 1, 1) := by decide +kernel
theorem dX11_valueBy_20 : decode cX11_valueBy 20 = .ok (.goto 4, 3) := by decide +kernel
theorem dX11_valueBy_23 : decode cX11_valueBy 23 = .ok (.iconst 0, 1) := by decide +kernel
theorem dX11_valueBy_24 : decode cX11_valueBy 24 = .ok (.istore_n 2, 1) := by decide +kernel
theorem dX11_valueBy_25 : decode cX11_valueBy 25 = .ok (.iload_n 2, 1) := by decide +kernel
theorem dX11_valueBy_26 : decode cX11_valueBy 26 = .ok (.aload_n 0, 1) := by decide +kernel
theorem dX11_valueBy_27 : decode cX11_valueBy 27 = .ok (.getfield 226, 3) := by decide +kernel
theorem dX11_valueBy_30 : decode cX11_valueBy 30 = .ok (.iconst 3, 1) := by decide +kernel
theorem dX11_valueBy_31 : decode cX11_valueBy 31 = .ok (.if_icmp .ne 7, 3) := by decide +kernel
theorem dX11_valueBy_34 : decode cX11_valueBy 34 = .ok (.iconst 1, 1) := by decide +kernel
theorem dX11_valueBy_35 : decode cX11_valueBy 35 = .ok (.goto 4, 3) := by decide +kernel
theorem dX11_valueBy_38 : decode cX11_valueBy 38 = .ok (.iconst 0, 1) := by decide +kernel
theorem dX11_valueBy_39 : decode cX11_valueBy 39 = .ok (.if_icmp .eq 13, 3) := by decide +kernel
theorem dX11_valueBy_42 : decode cX11_valueBy 42 = .ok (.aload_n 0, 1) := by decide +kernel
theorem dX11_valueBy_43 : decode cX11_valueBy 43 = .ok (.iconst 4, 1) := by decide +kernel
theorem dX11_valueBy_44 : decode cX11_valueBy 44 = .ok (.aload_n 0, 1) := by decide +kernel
theorem dX11_valueBy_45 : decode cX11_valueBy 45 = .ok (.getfield 225, 3) := by decide +kernel
theorem dX11_valueBy_48 : decode cX11_valueBy 48 = .ok (.invokevirtual 249, 3) := by decide +kernel
theorem dX11_valueBy_51 : decode cX11_valueBy 51 = .ok (.athrow, 1) := by decide +kernel
theorem dX11_valueBy_52 : decode cX11_valueBy 52 = .ok (.aload_n 0, 1) := by decide +kernel
theorem dX11_valueBy_53 : decode cX11_valueBy 53 = .ok (.getfield 50, 3) := by decide +kernel
theorem dX11_valueBy_56 : decode cX11_valueBy 56 = .ok (.iload_n 1, 1) := by decide +kernel
theorem dX11_valueBy_57 : decode cX11_valueBy 57 = .ok (.iaload, 1) := by decide +kernel
theorem dX11_valueBy_58 : decode cX11_valueBy 58 = .ok (.ifCond .ne 43, 3) := by decide +kernel
theorem dX11_valueBy_61 : decode cX11_valueBy 61 = .ok (.aload_n 0, 1) := by decide +kernel
theorem dX11_valueBy_62 : decode cX11_valueBy 62 = .ok (.getfield 232, 3) := by decide +kernel
theorem dX11_valueBy_65 : decode cX11_valueBy 65 = .ok (.aload_n 0, 1) := by decide +kernel
theorem dX11_valueBy_66 : decode cX11_valueBy 66 = .ok (.getfield 53, 3) := by decide +kernel
theorem dX11_valueBy_69 : decode cX11_valueBy 69 = .ok (.iload_n 1, 1) := by decide +kernel
theorem dX11_valueBy_70 : decode cX11_valueBy 70 = .ok (.iaload, 1) := by decide +kernel
theorem dX11_valueBy_71 : decode cX11_valueBy 71 = .ok (.i2l, 1) := by decide +kernel
theorem dX11_valueBy_72 : decode cX11_valueBy 72 = .ok (.lcmp, 1) := by decide +kernel
theorem dX11_valueBy_73 : decode cX11_valueBy 73 = .ok (.ifCond .lt 18, 3) := by decide +kernel
theorem dX11_valueBy_76 : decode cX11_valueBy 76 = .ok (.aload_n 0, 1) := by decide +kernel
theorem dX11_valueBy_77 : decode cX11_valueBy 77 = .ok (.getfield 232, 3) := by decide +kernel
theorem dX11_valueBy_80 : decode cX11_valueBy 80 = .ok (.aload_n 0, 1) := by decide +kernel
theorem dX11_valueBy_81 : decode cX11_valueBy 81 = .ok (.getfield 56, 3) := by decide +kernel
theorem dX11_valueBy_84 : decode cX11_valueBy 84 = .ok (.iload_n 1, 1) := by decide +kernel
theorem dX11_valueBy_85 : decode cX11_valueBy 85 = .ok (.iaload, 1) := by decide +kernel
theorem dX11_valueBy_86 : decode cX11_valueBy 86 = .ok (.i2l, 1) := by decide +kernel
theorem dX11_valueBy_87 : decode cX11_valueBy 87 = .ok (.lcmp, 1) := by decide +kernel
theorem dX11_valueBy_88 : decode cX11_valueBy 88 = .ok (.ifCond .le 13, 3) := by decide +kernel
theorem dX11_valueBy_91 : decode cX11_valueBy 91 = .ok (.aload_n 0, 1) := by decide +kernel
theorem dX11_valueBy_92 : decode cX11_valueBy 92 = .ok (.iconst 4, 1) := by decide +kernel
theorem dX11_valueBy_93 : decode cX11_valueBy 93 = .ok (.aload_n 0, 1) := by decide +kernel
theorem dX11_valueBy_94 : decode cX11_valueBy 94 = .ok (.getfield 225, 3) := by decide +kernel
theorem dX11_valueBy_97 : decode cX11_valueBy 97 = .ok (.invokevirtual 249, 3) := by decide +kernel
theorem dX11_valueBy_100 : decode cX11_valueBy 100 = .ok (.athrow, 1) := by decide +kernel
theorem dX11_valueBy_101 : decode cX11_valueBy 101 = .ok (.aload_n 0, 1) := by decide +kernel
theorem dX11_valueBy_102 : decode cX11_valueBy 102 = .ok (.getfield 50, 3) := by decide +kernel
theorem dX11_valueBy_105 : decode cX11_valueBy 105 = .ok (.iload_n 1, 1) := by decide +kernel
theorem dX11_valueBy_106 : decode cX11_valueBy 106 = .ok (.iaload, 1) := by decide +kernel
theorem dX11_valueBy_107 : decode cX11_valueBy 107 = .ok (.iconst 3, 1) := by decide +kernel
theorem dX11_valueBy_108 : decode cX11_valueBy 108 = .ok (.if_icmp .eq 8, 3) := by decide +kernel
theorem dX11_valueBy_111 : decode cX11_valueBy 111 = .ok (.aload_n 0, 1) := by decide +kernel
theorem dX11_valueBy_112 : decode cX11_valueBy 112 = .ok (.getfield 232, 3) := by decide +kernel
theorem dX11_valueBy_115 : decode cX11_valueBy 115 = .ok (.lreturn, 1) := by decide +kernel
theorem dX11_valueBy_116 : decode cX11_valueBy 116 = .ok (.iconst 0, 1) := by decide +kernel
theorem dX11_valueBy_117 : decode cX11_valueBy 117 = .ok (.istore_n 3, 1) := by decide +kernel
theorem dX11_valueBy_118 : decode cX11_valueBy 118 = .ok (.iload_n 3, 1) := by decide +kernel
theorem dX11_valueBy_119 : decode cX11_valueBy 119 = .ok (.aload_n 0, 1) := by decide +kernel
theorem dX11_valueBy_120 : decode cX11_valueBy 120 = .ok (.getfield 53, 3) := by decide +kernel
theorem dX11_valueBy_123 : decode cX11_valueBy 123 = .ok (.iload_n 1, 1) := by decide +kernel
theorem dX11_valueBy_124 : decode cX11_valueBy 124 = .ok (.iaload, 1) := by decide +kernel
theorem dX11_valueBy_125 : decode cX11_valueBy 125 = .ok (.if_icmp .ge 27, 3) := by decide +kernel
theorem dX11_valueBy_128 : decode cX11_valueBy 128 = .ok (.aload_n 0, 1) := by decide +kernel
theorem dX11_valueBy_129 : decode cX11_valueBy 129 = .ok (.getfield 65, 3) := by decide +kernel
theorem dX11_valueBy_132 : decode cX11_valueBy 132 = .ok (.iconst 4, 1) := by decide +kernel
theorem dX11_valueBy_133 : decode cX11_valueBy 133 = .ok (.iload_n 1, 1) := by decide +kernel
theorem dX11_valueBy_134 : decode cX11_valueBy 134 = .ok (.imul, 1) := by decide +kernel
theorem dX11_valueBy_135 : decode cX11_valueBy 135 = .ok (.iload_n 3, 1) := by decide +kernel
theorem dX11_valueBy_136 : decode cX11_valueBy 136 = .ok (.iadd, 1) := by decide +kernel
theorem dX11_valueBy_137 : decode cX11_valueBy 137 = .ok (.laload, 1) := by decide +kernel
theorem dX11_valueBy_138 : decode cX11_valueBy 138 = .ok (.aload_n 0, 1) := by decide +kernel
theorem dX11_valueBy_139 : decode cX11_valueBy 139 = .ok (.getfield 232, 3) := by decide +kernel
theorem dX11_valueBy_142 : decode cX11_valueBy 142 = .ok (.lcmp, 1) := by decide +kernel
theorem dX11_valueBy_143 : decode cX11_valueBy 143 = .ok (.ifCond .eq 9, 3) := by decide +kernel
theorem dX11_valueBy_146 : decode cX11_valueBy 146 = .ok (.iinc 3 1, 3) := by decide +kernel
theorem dX11_valueBy_149 : decode cX11_valueBy 149 = .ok (.goto (-31), 3) := by decide +kernel
theorem dX11_valueBy_152 : decode cX11_valueBy 152 = .ok (.iload_n 3, 1) := by decide +kernel
theorem dX11_valueBy_153 : decode cX11_valueBy 153 = .ok (.aload_n 0, 1) := by decide +kernel
theorem dX11_valueBy_154 : decode cX11_valueBy 154 = .ok (.getfield 53, 3) := by decide +kernel
theorem dX11_valueBy_157 : decode cX11_valueBy 157 = .ok (.iload_n 1, 1) := by decide +kernel
theorem dX11_valueBy_158 : decode cX11_valueBy 158 = .ok (.iaload, 1) := by decide +kernel
theorem dX11_valueBy_159 : decode cX11_valueBy 159 = .ok (.if_icmp .ne 13, 3) := by decide +kernel
theorem dX11_valueBy_162 : decode cX11_valueBy 162 = .ok (.aload_n 0, 1) := by decide +kernel
theorem dX11_valueBy_163 : decode cX11_valueBy 163 = .ok (.iconst 4, 1) := by decide +kernel
theorem dX11_valueBy_164 : decode cX11_valueBy 164 = .ok (.aload_n 0, 1) := by decide +kernel
theorem dX11_valueBy_165 : decode cX11_valueBy 165 = .ok (.getfield 225, 3) := by decide +kernel
theorem dX11_valueBy_168 : decode cX11_valueBy 168 = .ok (.invokevirtual 249, 3) := by decide +kernel
theorem dX11_valueBy_171 : decode cX11_valueBy 171 = .ok (.athrow, 1) := by decide +kernel
theorem dX11_valueBy_172 : decode cX11_valueBy 172 = .ok (.iload_n 3, 1) := by decide +kernel
theorem dX11_valueBy_173 : decode cX11_valueBy 173 = .ok (.i2l, 1) := by decide +kernel
theorem dX11_valueBy_174 : decode cX11_valueBy 174 = .ok (.lreturn, 1) := by decide +kernel
theorem dX11_notice_0 : decode cX11_notice 0 = .ok (.aload_n 0, 1) := by decide +kernel
theorem dX11_notice_1 : decode cX11_notice 1 = .ok (.iconst 0, 1) := by decide +kernel
theorem dX11_notice_2 : decode cX11_notice 2 = .ok (.putfield 158, 3) := by decide +kernel
theorem dX11_notice_5 : decode cX11_notice 5 = .ok (.aload_n 0, 1) := by decide +kernel
theorem dX11_notice_6 : decode cX11_notice 6 = .ok (.iload_n 1, 1) := by decide +kernel
theorem dX11_notice_7 : decode cX11_notice 7 = .ok (.invokevirtual 318, 3) := by decide +kernel
theorem dX11_notice_10 : decode cX11_notice 10 = .ok (.ifCond .ne 9, 3) := by decide +kernel
theorem dX11_notice_13 : decode cX11_notice 13 = .ok (.aload_n 0, 1) := by decide +kernel
theorem dX11_notice_14 : decode cX11_notice 14 = .ok (.iconst 1, 1) := by decide +kernel
theorem dX11_notice_15 : decode cX11_notice 15 = .ok (.invokevirtual 194, 3) := by decide +kernel
theorem dX11_notice_18 : decode cX11_notice 18 = .ok (.ireturn, 1) := by decide +kernel
theorem dX11_notice_19 : decode cX11_notice 19 = .ok (.iload_n 2, 1) := by decide +kernel
theorem dX11_notice_20 : decode cX11_notice 20 = .ok (.ifCond .lt 29, 3) := by decide +kernel
theorem dX11_notice_23 : decode cX11_notice 23 = .ok (.iload_n 2, 1) := by decide +kernel
theorem dX11_notice_24 : decode cX11_notice 24 = .ok (.aload_n 0, 1) := by decide +kernel
theorem dX11_notice_25 : decode cX11_notice 25 = .ok (.getfield 264, 3) := by decide +kernel
theorem dX11_notice_28 : decode cX11_notice 28 = .ok (.if_icmp .gt 21, 3) := by decide +kernel
theorem dX11_notice_31 : decode cX11_notice 31 = .ok (.iload_n 3, 1) := by decide +kernel
theorem dX11_notice_32 : decode cX11_notice 32 = .ok (.iconst 1, 1) := by decide +kernel
theorem dX11_notice_33 : decode cX11_notice 33 = .ok (.bipush 60, 2) := by decide +kernel
theorem dX11_notice_35 : decode cX11_notice 35 = .ok (.invokestatic 203, 3) := by decide +kernel
theorem dX11_notice_38 : decode cX11_notice 38 = .ok (.ifCond .eq 11, 3) := by decide +kernel
theorem dX11_notice_41 : decode cX11_notice 41 = .ok (.iload 4, 2) := by decide +kernel
theorem dX11_notice_43 : decode cX11_notice 43 = .ok (.invokestatic 176, 3) := by decide +kernel
theorem dX11_notice_46 : decode cX11_notice 46 = .ok (.ifCond .ne 9, 3) := by decide +kernel
theorem dX11_notice_49 : decode cX11_notice 49 = .ok (.aload_n 0, 1) := by decide +kernel
theorem dX11_notice_50 : decode cX11_notice 50 = .ok (.iconst 2, 1) := by decide +kernel
theorem dX11_notice_51 : decode cX11_notice 51 = .ok (.invokevirtual 194, 3) := by decide +kernel
theorem dX11_notice_54 : decode cX11_notice 54 = .ok (.ireturn, 1) := by decide +kernel
theorem dX11_notice_55 : decode cX11_notice 55 = .ok (.aload_n 0, 1) := by decide +kernel
theorem dX11_notice_56 : decode cX11_notice 56 = .ok (.iload_n 2, 1) := by decide +kernel
theorem dX11_notice_57 : decode cX11_notice 57 = .ok (.invokevirtual 308, 3) := by decide +kernel
theorem dX11_notice_60 : decode cX11_notice 60 = .ok (.aload_n 0, 1) := by decide +kernel
theorem dX11_notice_61 : decode cX11_notice 61 = .ok (.iload_n 1, 1) := by decide +kernel
theorem dX11_notice_62 : decode cX11_notice 62 = .ok (.invokevirtual 325, 3) := by decide +kernel
theorem dX11_notice_65 : decode cX11_notice 65 = .ok (.goto 12, 3) := by decide +kernel
theorem dX11_notice_68 : decode cX11_notice 68 = .ok (.astore 5, 2) := by decide +kernel
theorem dX11_notice_70 : decode cX11_notice 70 = .ok (.aload_n 0, 1) := by decide +kernel
theorem dX11_notice_71 : decode cX11_notice 71 = .ok (.aload 5, 2) := by decide +kernel
theorem dX11_notice_73 : decode cX11_notice 73 = .ok (.invokevirtual 314, 3) := by decide +kernel
theorem dX11_notice_76 : decode cX11_notice 76 = .ok (.ireturn, 1) := by decide +kernel
theorem dX11_notice_77 : decode cX11_notice 77 = .ok (.aload_n 0, 1) := by decide +kernel
theorem dX11_notice_78 : decode cX11_notice 78 = .ok (.getfield 173, 3) := by decide +kernel
theorem dX11_notice_81 : decode cX11_notice 81 = .ok (.bipush 60, 2) := by decide +kernel
theorem dX11_notice_83 : decode cX11_notice 83 = .ok (.if_icmp .ne 9, 3) := by decide +kernel
theorem dX11_notice_86 : decode cX11_notice 86 = .ok (.aload_n 0, 1) := by decide +kernel
theorem dX11_notice_87 : decode cX11_notice 87 = .ok (.iconst 3, 1) := by decide +kernel
theorem dX11_notice_88 : decode cX11_notice 88 = .ok (.invokevirtual 194, 3) := by decide +kernel
theorem dX11_notice_91 : decode cX11_notice 91 = .ok (.ireturn, 1) := by decide +kernel
theorem dX11_notice_92 : decode cX11_notice 92 = .ok (.aload_n 0, 1) := by decide +kernel
theorem dX11_notice_93 : decode cX11_notice 93 = .ok (.getfield 71, 3) := by decide +kernel
theorem dX11_notice_96 : decode cX11_notice 96 = .ok (.aload_n 0, 1) := by decide +kernel
theorem dX11_notice_97 : decode cX11_notice 97 = .ok (.getfield 173, 3) := by decide +kernel
theorem dX11_notice_100 : decode cX11_notice 100 = .ok (.iload_n 1, 1) := by decide +kernel
theorem dX11_notice_101 : decode cX11_notice 101 = .ok (.iastore, 1) := by decide +kernel
theorem dX11_notice_102 : decode cX11_notice 102 = .ok (.aload_n 0, 1) := by decide +kernel
theorem dX11_notice_103 : decode cX11_notice 103 = .ok (.getfield 74, 3) := by decide +kernel
theorem dX11_notice_106 : decode cX11_notice 106 = .ok (.aload_n 0, 1) := by decide +kernel
theorem dX11_notice_107 : decode cX11_notice 107 = .ok (.getfield 173, 3) := by decide +kernel
theorem dX11_notice_110 : decode cX11_notice 110 = .ok (.iload_n 3, 1) := by decide +kernel
theorem dX11_notice_111 : decode cX11_notice 111 = .ok (.iastore, 1) := by decide +kernel
theorem dX11_notice_112 : decode cX11_notice 112 = .ok (.aload_n 0, 1) := by decide +kernel
theorem dX11_notice_113 : decode cX11_notice 113 = .ok (.getfield 77, 3) := by decide +kernel
theorem dX11_notice_116 : decode cX11_notice 116 = .ok (.aload_n 0, 1) := by decide +kernel
theorem dX11_notice_117 : decode cX11_notice 117 = .ok (.getfield 173, 3) := by decide +kernel
theorem dX11_notice_120 : decode cX11_notice 120 = .ok (.iload 4, 2) := by decide +kernel
theorem dX11_notice_122 : decode cX11_notice 122 = .ok (.iastore, 1) := by decide +kernel
theorem dX11_notice_123 : decode cX11_notice 123 = .ok (.aload_n 0, 1) := by decide +kernel
theorem dX11_notice_124 : decode cX11_notice 124 = .ok (.getfield 80, 3) := by decide +kernel
theorem dX11_notice_127 : decode cX11_notice 127 = .ok (.aload_n 0, 1) := by decide +kernel
theorem dX11_notice_128 : decode cX11_notice 128 = .ok (.getfield 173, 3) := by decide +kernel
theorem dX11_notice_131 : decode cX11_notice 131 = .ok (.iconst (-1), 1) := by decide +kernel
theorem dX11_notice_132 : decode cX11_notice 132 = .ok (.iastore, 1) := by decide +kernel
theorem dX11_notice_133 : decode cX11_notice 133 = .ok (.aload_n 0, 1) := by decide +kernel
theorem dX11_notice_134 : decode cX11_notice 134 = .ok (.getfield 83, 3) := by decide +kernel
theorem dX11_notice_137 : decode cX11_notice 137 = .ok (.aload_n 0, 1) := by decide +kernel
theorem dX11_notice_138 : decode cX11_notice 138 = .ok (.getfield 173, 3) := by decide +kernel
theorem dX11_notice_141 : decode cX11_notice 141 = .ok (.iconst 0, 1) := by decide +kernel
theorem dX11_notice_142 : decode cX11_notice 142 = .ok (.iastore, 1) := by decide +kernel
theorem dX11_notice_143 : decode cX11_notice 143 = .ok (.aload_n 0, 1) := by decide +kernel
theorem dX11_notice_144 : decode cX11_notice 144 = .ok (.getfield 86, 3) := by decide +kernel
theorem dX11_notice_147 : decode cX11_notice 147 = .ok (.aload_n 0, 1) := by decide +kernel
theorem dX11_notice_148 : decode cX11_notice 148 = .ok (.getfield 173, 3) := by decide +kernel
theorem dX11_notice_151 : decode cX11_notice 151 = .ok (.iconst (-1), 1) := by decide +kernel
theorem dX11_notice_152 : decode cX11_notice 152 = .ok (.iastore, 1) := by decide +kernel
theorem dX11_notice_153 : decode cX11_notice 153 = .ok (.aload_n 0, 1) := by decide +kernel
theorem dX11_notice_154 : decode cX11_notice 154 = .ok (.getfield 92, 3) := by decide +kernel
theorem dX11_notice_157 : decode cX11_notice 157 = .ok (.aload_n 0, 1) := by decide +kernel
theorem dX11_notice_158 : decode cX11_notice 158 = .ok (.getfield 173, 3) := by decide +kernel
theorem dX11_notice_161 : decode cX11_notice 161 = .ok (.lconst 0, 1) := by decide +kernel
theorem dX11_notice_162 : decode cX11_notice 162 = .ok (.lastore, 1) := by decide +kernel
theorem dX11_notice_163 : decode cX11_notice 163 = .ok (.aload_n 0, 1) := by decide +kernel
theorem dX11_notice_164 : decode cX11_notice 164 = .ok (.getfield 95, 3) := by decide +kernel
theorem dX11_notice_167 : decode cX11_notice 167 = .ok (.aload_n 0, 1) := by decide +kernel
theorem dX11_notice_168 : decode cX11_notice 168 = .ok (.getfield 173, 3) := by decide +kernel
theorem dX11_notice_171 : decode cX11_notice 171 = .ok (.lconst 0, 1) := by decide +kernel
theorem dX11_notice_172 : decode cX11_notice 172 = .ok (.lastore, 1) := by decide +kernel
theorem dX11_notice_173 : decode cX11_notice 173 = .ok (.aload_n 0, 1) := by decide +kernel
theorem dX11_notice_174 : decode cX11_notice 174 = .ok (.getfield 98, 3) := by decide +kernel
theorem dX11_notice_177 : decode cX11_notice 177 = .ok (.aload_n 0, 1) := by decide +kernel
theorem dX11_notice_178 : decode cX11_notice 178 = .ok (.getfield 173, 3) := by decide +kernel
theorem dX11_notice_181 : decode cX11_notice 181 = .ok (.lconst 0, 1) := by decide +kernel
theorem dX11_notice_182 : decode cX11_notice 182 = .ok (.lastore, 1) := by decide +kernel
theorem dX11_notice_183 : decode cX11_notice 183 = .ok (.aload_n 0, 1) := by decide +kernel
theorem dX11_notice_184 : decode cX11_notice 184 = .ok (.iconst 2, 1) := by decide +kernel
theorem dX11_notice_185 : decode cX11_notice 185 = .ok (.aload_n 0, 1) := by decide +kernel
theorem dX11_notice_186 : decode cX11_notice 186 = .ok (.getfield 173, 3) := by decide +kernel
theorem dX11_notice_189 : decode cX11_notice 189 = .ok (.lconst 0, 1) := by decide +kernel
theorem dX11_notice_190 : decode cX11_notice 190 = .ok (.lconst 0, 1) := by decide +kernel
theorem dX11_notice_191 : decode cX11_notice 191 = .ok (.invokevirtual 183, 3) := by decide +kernel
theorem dX11_notice_194 : decode cX11_notice 194 = .ok (.aload_n 0, 1) := by decide +kernel
theorem dX11_notice_195 : decode cX11_notice 195 = .ok (.dup, 1) := by decide +kernel
theorem dX11_notice_196 : decode cX11_notice 196 = .ok (.getfield 173, 3) := by decide +kernel
theorem dX11_notice_199 : decode cX11_notice 199 = .ok (.iconst 1, 1) := by decide +kernel
theorem dX11_notice_200 : decode cX11_notice 200 = .ok (.iadd, 1) := by decide +kernel
theorem dX11_notice_201 : decode cX11_notice 201 = .ok (.putfield 173, 3) := by decide +kernel
theorem dX11_notice_204 : decode cX11_notice 204 = .ok (.aload_n 0, 1) := by decide +kernel
theorem dX11_notice_205 : decode cX11_notice 205 = .ok (.aload_n 0, 1) := by decide +kernel
theorem dX11_notice_206 : decode cX11_notice 206 = .ok (.getfield 173, 3) := by decide +kernel
theorem dX11_notice_209 : decode cX11_notice 209 = .ok (.iconst 1, 1) := by decide +kernel
theorem dX11_notice_210 : decode cX11_notice 210 = .ok (.isub, 1) := by decide +kernel
theorem dX11_notice_211 : decode cX11_notice 211 = .ok (.invokevirtual 190, 3) := by decide +kernel
theorem dX11_notice_214 : decode cX11_notice 214 = .ok (.ireturn, 1) := by decide +kernel
theorem dX11_fault_0 : decode cX11_fault 0 = .ok (.aload_n 0, 1) := by decide +kernel
theorem dX11_fault_1 : decode cX11_fault 1 = .ok (.iconst 0, 1) := by decide +kernel
theorem dX11_fault_2 : decode cX11_fault 2 = .ok (.putfield 158, 3) := by decide +kernel
theorem dX11_fault_5 : decode cX11_fault 5 = .ok (.aload_n 0, 1) := by decide +kernel
theorem dX11_fault_6 : decode cX11_fault 6 = .ok (.getfield 267, 3) := by decide +kernel
theorem dX11_fault_9 : decode cX11_fault 9 = .ok (.ireturn, 1) := by decide +kernel
theorem dX11_where_0 : decode cX11_where 0 = .ok (.aload_n 0, 1) := by decide +kernel
theorem dX11_where_1 : decode cX11_where 1 = .ok (.iconst 0, 1) := by decide +kernel
theorem dX11_where_2 : decode cX11_where 2 = .ok (.putfield 158, 3) := by decide +kernel
theorem dX11_where_5 : decode cX11_where 5 = .ok (.aload_n 0, 1) := by decide +kernel
theorem dX11_where_6 : decode cX11_where 6 = .ok (.getfield 11, 3) := by decide +kernel
theorem dX11_where_9 : decode cX11_where 9 = .ok (.ireturn, 1) := by decide +kernel
theorem dX11_lacks_0 : decode cX11_lacks 0 = .ok (.aload_n 0, 1) := by decide +kernel
theorem dX11_lacks_1 : decode cX11_lacks 1 = .ok (.iconst 0, 1) := by decide +kernel
theorem dX11_lacks_2 : decode cX11_lacks 2 = .ok (.putfield 158, 3) := by decide +kernel
theorem dX11_lacks_5 : decode cX11_lacks 5 = .ok (.aload_n 0, 1) := by decide +kernel
theorem dX11_lacks_6 : decode cX11_lacks 6 = .ok (.getfield 15, 3) := by decide +kernel
theorem dX11_lacks_9 : decode cX11_lacks 9 = .ok (.ireturn, 1) := by decide +kernel
theorem dX11_isNotice_0 : decode cX11_isNotice 0 = .ok (.iload_n 1, 1) := by decide +kernel
theorem dX11_isNotice_1 : decode cX11_isNotice 1 = .ok (.ifCond .lt 15, 3) := by decide +kernel
theorem dX11_isNotice_4 : decode cX11_isNotice 4 = .ok (.iload_n 1, 1) := by decide +kernel
theorem dX11_isNotice_5 : decode cX11_isNotice 5 = .ok (.aload_n 0, 1) := by decide +kernel
theorem dX11_isNotice_6 : decode cX11_isNotice 6 = .ok (.getfield 173, 3) := by decide +kernel
theorem dX11_isNotice_9 : decode cX11_isNotice 9 = .ok (.if_icmp .ge 7, 3) := by decide +kernel
theorem dX11_isNotice_12 : decode cX11_isNotice 12 = .ok (.iconst 1, 1) := by decide +kernel
theorem dX11_isNotice_13 : decode cX11_isNotice 13 = .ok (.goto 4, 3) := by decide +kernel
theorem dX11_isNotice_16 : decode cX11_isNotice 16 = .ok (.iconst 0, 1) := by decide +kernel
theorem dX11_isNotice_17 : decode cX11_isNotice 17 = .ok (.ireturn, 1) := by decide +kernel
theorem dX11_spans_0 : decode cX11_spans 0 = .ok (.aload_n 0, 1) := by decide +kernel
theorem dX11_spans_1 : decode cX11_spans 1 = .ok (.getfield 71, 3) := by decide +kernel
theorem dX11_spans_4 : decode cX11_spans 4 = .ok (.iload_n 1, 1) := by decide +kernel
theorem dX11_spans_5 : decode cX11_spans 5 = .ok (.iaload, 1) := by decide +kernel
theorem dX11_spans_6 : decode cX11_spans 6 = .ok (.istore_n 2, 1) := by decide +kernel
theorem dX11_spans_7 : decode cX11_spans 7 = .ok (.iconst 0, 1) := by decide +kernel
theorem dX11_spans_8 : decode cX11_spans 8 = .ok (.istore_n 3, 1) := by decide +kernel
theorem dX11_spans_9 : decode cX11_spans 9 = .ok (.iload_n 3, 1) := by decide +kernel
theorem dX11_spans_10 : decode cX11_spans 10 = .ok (.aload_n 0, 1) := by decide +kernel
theorem dX11_spans_11 : decode cX11_spans 11 = .ok (.getfield 47, 3) := by decide +kernel
theorem dX11_spans_14 : decode cX11_spans 14 = .ok (.iload_n 2, 1) := by decide +kernel
theorem dX11_spans_15 : decode cX11_spans 15 = .ok (.iaload, 1) := by decide +kernel
theorem dX11_spans_16 : decode cX11_spans 16 = .ok (.if_icmp .ge 120, 3) := by decide +kernel
theorem dX11_spans_19 : decode cX11_spans 19 = .ok (.bipush 8, 2) := by decide +kernel
theorem dX11_spans_21 : decode cX11_spans 21 = .ok (.iload_n 2, 1) := by decide +kernel
theorem dX11_spans_22 : decode cX11_spans 22 = .ok (.imul, 1) := by decide +kernel
theorem dX11_spans_23 : decode cX11_spans 23 = .ok (.iload_n 3, 1) := by decide +kernel
theorem dX11_spans_24 : decode cX11_spans 24 = .ok (.iadd, 1) := by decide +kernel
theorem dX11_spans_25 : decode cX11_spans 25 = .ok (.istore 4, 2) := by decide +kernel
theorem dX11_spans_27 : decode cX11_spans 27 = .ok (.aload_n 0, 1) := by decide +kernel
theorem dX11_spans_28 : decode cX11_spans 28 = .ok (.getfield 50, 3) := by decide +kernel
theorem dX11_spans_31 : decode cX11_spans 31 = .ok (.iload 4, 2) := by decide +kernel
theorem dX11_spans_33 : decode cX11_spans 33 = .ok (.iaload, 1) := by decide +kernel
theorem dX11_spans_34 : decode cX11_spans 34 = .ok (.iconst 4, 1) := by decide +kernel
theorem dX11_spans_35 : decode cX11_spans 35 = .ok (.if_icmp .ge 6, 3) := by decide +kernel
theorem dX11_spans_38 : decode cX11_spans 38 = .ok (.goto 92, 3) := by decide +kernel
theorem dX11_spans_41 : decode cX11_spans 41 = .ok (.bipush 8, 2) := by decide +kernel
theorem dX11_spans_43 : decode cX11_spans 43 = .ok (.iload_n 1, 1) := by decide +kernel
theorem dX11_spans_44 : decode cX11_spans 44 = .ok (.imul, 1) := by decide +kernel
theorem dX11_spans_45 : decode cX11_spans 45 = .ok (.aload_n 0, 1) := by decide +kernel
theorem dX11_spans_46 : decode cX11_spans 46 = .ok (.getfield 56, 3) := by decide +kernel
theorem dX11_spans_49 : decode cX11_spans 49 = .ok (.iload 4, 2) := by decide +kernel
theorem dX11_spans_51 : decode cX11_spans 51 = .ok (.iaload, 1) := by decide +kernel
theorem dX11_spans_52 : decode cX11_spans 52 = .ok (.iadd, 1) := by decide +kernel
theorem dX11_spans_53 : decode cX11_spans 53 = .ok (.istore 5, 2) := by decide +kernel
theorem dX11_spans_55 : decode cX11_spans 55 = .ok (.aload_n 0, 1) := by decide +kernel
theorem dX11_spans_56 : decode cX11_spans 56 = .ok (.getfield 101, 3) := by decide +kernel
theorem dX11_spans_59 : decode cX11_spans 59 = .ok (.bipush 8, 2) := by decide +kernel
theorem dX11_spans_61 : decode cX11_spans 61 = .ok (.iload_n 1, 1) := by decide +kernel
theorem dX11_spans_62 : decode cX11_spans 62 = .ok (.imul, 1) := by decide +kernel
theorem dX11_spans_63 : decode cX11_spans 63 = .ok (.iload_n 3, 1) := by decide +kernel
theorem dX11_spans_64 : decode cX11_spans 64 = .ok (.iadd, 1) := by decide +kernel
theorem dX11_spans_65 : decode cX11_spans 65 = .ok (.aload_n 0, 1) := by decide +kernel
theorem dX11_spans_66 : decode cX11_spans 66 = .ok (.getfield 101, 3) := by decide +kernel
theorem dX11_spans_69 : decode cX11_spans 69 = .ok (.iload 5, 2) := by decide +kernel
theorem dX11_spans_71 : decode cX11_spans 71 = .ok (.baload, 1) := by decide +kernel
theorem dX11_spans_72 : decode cX11_spans 72 = .ok (.bastore, 1) := by decide +kernel
theorem dX11_spans_73 : decode cX11_spans 73 = .ok (.aload_n 0, 1) := by decide +kernel
theorem dX11_spans_74 : decode cX11_spans 74 = .ok (.getfield 101, 3) := by decide +kernel
theorem dX11_spans_77 : decode cX11_spans 77 = .ok (.iload 5, 2) := by decide +kernel
theorem dX11_spans_79 : decode cX11_spans 79 = .ok (.baload, 1) := by decide +kernel
theorem dX11_spans_80 : decode cX11_spans 80 = .ok (.ifCond .eq 50, 3) := by decide +kernel
theorem dX11_spans_83 : decode cX11_spans 83 = .ok (.aload_n 0, 1) := by decide +kernel
theorem dX11_spans_84 : decode cX11_spans 84 = .ok (.getfield 89, 3) := by decide +kernel
theorem dX11_spans_87 : decode cX11_spans 87 = .ok (.bipush 8, 2) := by decide +kernel
theorem dX11_spans_89 : decode cX11_spans 89 = .ok (.iload_n 1, 1) := by decide +kernel
theorem dX11_spans_90 : decode cX11_spans 90 = .ok (.imul, 1) := by decide +kernel
theorem dX11_spans_91 : decode cX11_spans 91 = .ok (.iload_n 3, 1) := by decide +kernel
theorem dX11_spans_92 : decode cX11_spans 92 = .ok (.iadd, 1) := by decide +kernel
theorem dX11_spans_93 : decode cX11_spans 93 = .ok (.aload_n 0, 1) := by decide +kernel
theorem dX11_spans_94 : decode cX11_spans 94 = .ok (.aload_n 0, 1) := by decide +kernel
theorem dX11_spans_95 : decode cX11_spans 95 = .ok (.getfield 89, 3) := by decide +kernel
theorem dX11_spans_98 : decode cX11_spans 98 = .ok (.iload 5, 2) := by decide +kernel
theorem dX11_spans_100 : decode cX11_spans 100 = .ok (.laload, 1) := by decide +kernel
theorem dX11_spans_101 : decode cX11_spans 101 = .ok (.l2i, 1) := by decide +kernel
theorem dX11_spans_102 : decode cX11_spans 102 = .ok (.aload_n 0, 1) := by decide +kernel
theorem dX11_spans_103 : decode cX11_spans 103 = .ok (.getfield 53, 3) := by decide +kernel
theorem dX11_spans_106 : decode cX11_spans 106 = .ok (.iload 4, 2) := by decide +kernel
theorem dX11_spans_108 : decode cX11_spans 108 = .ok (.iaload, 1) := by decide +kernel
theorem dX11_spans_109 : decode cX11_spans 109 = .ok (.aload_n 0, 1) := by decide +kernel
theorem dX11_spans_110 : decode cX11_spans 110 = .ok (.getfield 50, 3) := by decide +kernel
theorem dX11_spans_113 : decode cX11_spans 113 = .ok (.iload 4, 2) := by decide +kernel
theorem dX11_spans_115 : decode cX11_spans 115 = .ok (.iaload, 1) := by decide +kernel
theorem dX11_spans_116 : decode cX11_spans 116 = .ok (.iconst 5, 1) := by decide +kernel
theorem dX11_spans_117 : decode cX11_spans 117 = .ok (.if_icmp .ne 7, 3) := by decide +kernel
theorem dX11_spans_120 : decode cX11_spans 120 = .ok (.iconst 1, 1) := by decide +kernel
theorem dX11_spans_121 : decode cX11_spans 121 = .ok (.goto 4, 3) := by decide +kernel
theorem dX11_spans_124 : decode cX11_spans 124 = .ok (.iconst 0, 1) := by decide +kernel
theorem dX11_spans_125 : decode cX11_spans 125 = .ok (.invokevirtual 207, 3) := by decide +kernel
theorem dX11_spans_128 : decode cX11_spans 128 = .ok (.i2l, 1) := by decide +kernel
theorem dX11_spans_129 : decode cX11_spans 129 = .ok (.lastore, 1) := by decide +kernel
theorem dX11_spans_130 : decode cX11_spans 130 = .ok (.iinc 3 1, 3) := by decide +kernel
theorem dX11_spans_133 : decode cX11_spans 133 = .ok (.goto (-124), 3) := by decide +kernel
theorem dX11_spans_136 : decode cX11_spans 136 = .ok (.return_, 1) := by decide +kernel
theorem dX11_value_0 : decode cX11_value 0 = .ok (.aload_n 0, 1) := by decide +kernel
theorem dX11_value_1 : decode cX11_value 1 = .ok (.iconst 0, 1) := by decide +kernel
theorem dX11_value_2 : decode cX11_value 2 = .ok (.putfield 158, 3) := by decide +kernel
theorem dX11_value_5 : decode cX11_value 5 = .ok (.aload_n 0, 1) := by decide +kernel
theorem dX11_value_6 : decode cX11_value 6 = .ok (.iload_n 1, 1) := by decide +kernel
theorem dX11_value_7 : decode cX11_value 7 = .ok (.invokevirtual 328, 3) := by decide +kernel
theorem dX11_value_10 : decode cX11_value 10 = .ok (.ifCond .eq 22, 3) := by decide +kernel
theorem dX11_value_13 : decode cX11_value 13 = .ok (.iload_n 2, 1) := by decide +kernel
theorem dX11_value_14 : decode cX11_value 14 = .ok (.ifCond .lt 18, 3) := by decide +kernel
theorem dX11_value_17 : decode cX11_value 17 = .ok (.iload_n 2, 1) := by decide +kernel
theorem dX11_value_18 : decode cX11_value 18 = .ok (.aload_n 0, 1) := by decide +kernel
theorem dX11_value_19 : decode cX11_value 19 = .ok (.getfield 47, 3) := by decide +kernel
theorem dX11_value_22 : decode cX11_value 22 = .ok (.aload_n 0, 1) := by decide +kernel
theorem dX11_value_23 : decode cX11_value 23 = .ok (.getfield 71, 3) := by decide +kernel
theorem dX11_value_26 : decode cX11_value 26 = .ok (.iload_n 1, 1) := by decide +kernel
theorem dX11_value_27 : decode cX11_value 27 = .ok (.iaload, 1) := by decide +kernel
theorem dX11_value_28 : decode cX11_value 28 = .ok (.iaload, 1) := by decide +kernel
theorem dX11_value_29 : decode cX11_value 29 = .ok (.if_icmp .lt 7, 3) := by decide +kernel
theorem dX11_value_32 : decode cX11_value 32 = .ok (.ldc2_w 331, 3) := by decide +kernel
theorem dX11_value_35 : decode cX11_value 35 = .ok (.lreturn, 1) := by decide +kernel
theorem dX11_value_36 : decode cX11_value 36 = .ok (.aload_n 0, 1) := by decide +kernel
theorem dX11_value_37 : decode cX11_value 37 = .ok (.getfield 80, 3) := by decide +kernel
theorem dX11_value_40 : decode cX11_value 40 = .ok (.iload_n 1, 1) := by decide +kernel
theorem dX11_value_41 : decode cX11_value 41 = .ok (.iaload, 1) := by decide +kernel
theorem dX11_value_42 : decode cX11_value 42 = .ok (.iconst (-1), 1) := by decide +kernel
theorem dX11_value_43 : decode cX11_value 43 = .ok (.if_icmp .ne 8, 3) := by decide +kernel
theorem dX11_value_46 : decode cX11_value 46 = .ok (.aload_n 0, 1) := by decide +kernel
theorem dX11_value_47 : decode cX11_value 47 = .ok (.iload_n 1, 1) := by decide +kernel
theorem dX11_value_48 : decode cX11_value 48 = .ok (.invokevirtual 333, 3) := by decide +kernel
theorem dX11_value_51 : decode cX11_value 51 = .ok (.aload_n 0, 1) := by decide +kernel
theorem dX11_value_52 : decode cX11_value 52 = .ok (.getfield 101, 3) := by decide +kernel
theorem dX11_value_55 : decode cX11_value 55 = .ok (.bipush 8, 2) := by decide +kernel
theorem dX11_value_57 : decode cX11_value 57 = .ok (.iload_n 1, 1) := by decide +kernel
theorem dX11_value_58 : decode cX11_value 58 = .ok (.imul, 1) := by decide +kernel
theorem dX11_value_59 : decode cX11_value 59 = .ok (.iload_n 2, 1) := by decide +kernel
theorem dX11_value_60 : decode cX11_value 60 = .ok (.iadd, 1) := by decide +kernel
theorem dX11_value_61 : decode cX11_value 61 = .ok (.baload, 1) := by decide +kernel
theorem dX11_value_62 : decode cX11_value 62 = .ok (.ifCond .eq 17, 3) := by decide +kernel
theorem dX11_value_65 : decode cX11_value 65 = .ok (.aload_n 0, 1) := by decide +kernel
theorem dX11_value_66 : decode cX11_value 66 = .ok (.getfield 89, 3) := by decide +kernel
theorem dX11_value_69 : decode cX11_value 69 = .ok (.bipush 8, 2) := by decide +kernel
theorem dX11_value_71 : decode cX11_value 71 = .ok (.iload_n 1, 1) := by decide +kernel
theorem dX11_value_72 : decode cX11_value 72 = .ok (.imul, 1) := by decide +kernel
theorem dX11_value_73 : decode cX11_value 73 = .ok (.iload_n 2, 1) := by decide +kernel
theorem dX11_value_74 : decode cX11_value 74 = .ok (.iadd, 1) := by decide +kernel
theorem dX11_value_75 : decode cX11_value 75 = .ok (.laload, 1) := by decide +kernel
theorem dX11_value_76 : decode cX11_value 76 = .ok (.goto 6, 3) := by decide +kernel
theorem dX11_value_79 : decode cX11_value 79 = .ok (.ldc2_w 331, 3) := by decide +kernel
theorem dX11_value_82 : decode cX11_value 82 = .ok (.lreturn, 1) := by decide +kernel
theorem dX11_about_0 : decode cX11_about 0 = .ok (.aload_n 0, 1) := by decide +kernel
theorem dX11_about_1 : decode cX11_about 1 = .ok (.iconst 0, 1) := by decide +kernel
theorem dX11_about_2 : decode cX11_about 2 = .ok (.putfield 158, 3) := by decide +kernel
theorem dX11_about_5 : decode cX11_about 5 = .ok (.aload_n 0, 1) := by decide +kernel
theorem dX11_about_6 : decode cX11_about 6 = .ok (.iload_n 1, 1) := by decide +kernel
theorem dX11_about_7 : decode cX11_about 7 = .ok (.invokevirtual 328, 3) := by decide +kernel
theorem dX11_about_10 : decode cX11_about 10 = .ok (.ifCond .ne 5, 3) := by decide +kernel
theorem dX11_about_13 : decode cX11_about 13 = .ok (.iconst (-1), 1) := by decide +kernel
theorem dX11_about_14 : decode cX11_about 14 = .ok (.ireturn, 1) := by decide +kernel
theorem dX11_about_15 : decode cX11_about 15 = .ok (.iload_n 2, 1) := by decide +kernel
theorem dX11_about_16 : decode cX11_about 16 = .ok (.tableswitch 124 0 7 #[48, 55, 62, 69, 76, 83, 90, 107], 48) := by decide +kernel
theorem dX11_about_64 : decode cX11_about 64 = .ok (.aload_n 0, 1) := by decide +kernel
theorem dX11_about_65 : decode cX11_about 65 = .ok (.getfield 71, 3) := by decide +kernel
theorem dX11_about_68 : decode cX11_about 68 = .ok (.iload_n 1, 1) := by decide +kernel
theorem dX11_about_69 : decode cX11_about 69 = .ok (.iaload, 1) := by decide +kernel
theorem dX11_about_70 : decode cX11_about 70 = .ok (.ireturn, 1) := by decide +kernel
theorem dX11_about_71 : decode cX11_about 71 = .ok (.aload_n 0, 1) := by decide +kernel
theorem dX11_about_72 : decode cX11_about 72 = .ok (.getfield 74, 3) := by decide +kernel
theorem dX11_about_75 : decode cX11_about 75 = .ok (.iload_n 1, 1) := by decide +kernel
theorem dX11_about_76 : decode cX11_about 76 = .ok (.iaload, 1) := by decide +kernel
theorem dX11_about_77 : decode cX11_about 77 = .ok (.ireturn, 1) := by decide +kernel
theorem dX11_about_78 : decode cX11_about 78 = .ok (.aload_n 0, 1) := by decide +kernel
theorem dX11_about_79 : decode cX11_about 79 = .ok (.getfield 77, 3) := by decide +kernel
theorem dX11_about_82 : decode cX11_about 82 = .ok (.iload_n 1, 1) := by decide +kernel
theorem dX11_about_83 : decode cX11_about 83 = .ok (.iaload, 1) := by decide +kernel
theorem dX11_about_84 : decode cX11_about 84 = .ok (.ireturn, 1) := by decide +kernel
theorem dX11_about_85 : decode cX11_about 85 = .ok (.aload_n 0, 1) := by decide +kernel
theorem dX11_about_86 : decode cX11_about 86 = .ok (.getfield 80, 3) := by decide +kernel
theorem dX11_about_89 : decode cX11_about 89 = .ok (.iload_n 1, 1) := by decide +kernel
theorem dX11_about_90 : decode cX11_about 90 = .ok (.iaload, 1) := by decide +kernel
theorem dX11_about_91 : decode cX11_about 91 = .ok (.ireturn, 1) := by decide +kernel
theorem dX11_about_92 : decode cX11_about 92 = .ok (.aload_n 0, 1) := by decide +kernel
theorem dX11_about_93 : decode cX11_about 93 = .ok (.getfield 83, 3) := by decide +kernel
theorem dX11_about_96 : decode cX11_about 96 = .ok (.iload_n 1, 1) := by decide +kernel
theorem dX11_about_97 : decode cX11_about 97 = .ok (.iaload, 1) := by decide +kernel
theorem dX11_about_98 : decode cX11_about 98 = .ok (.ireturn, 1) := by decide +kernel
theorem dX11_about_99 : decode cX11_about 99 = .ok (.aload_n 0, 1) := by decide +kernel
theorem dX11_about_100 : decode cX11_about 100 = .ok (.getfield 86, 3) := by decide +kernel
theorem dX11_about_103 : decode cX11_about 103 = .ok (.iload_n 1, 1) := by decide +kernel
theorem dX11_about_104 : decode cX11_about 104 = .ok (.iaload, 1) := by decide +kernel
theorem dX11_about_105 : decode cX11_about 105 = .ok (.ireturn, 1) := by decide +kernel
theorem dX11_about_106 : decode cX11_about 106 = .ok (.aload_n 0, 1) := by decide +kernel
theorem dX11_about_107 : decode cX11_about 107 = .ok (.getfield 92, 3) := by decide +kernel
theorem dX11_about_110 : decode cX11_about 110 = .ok (.iload_n 1, 1) := by decide +kernel
theorem dX11_about_111 : decode cX11_about 111 = .ok (.laload, 1) := by decide +kernel
theorem dX11_about_112 : decode cX11_about 112 = .ok (.lconst 0, 1) := by decide +kernel
theorem dX11_about_113 : decode cX11_about 113 = .ok (.lcmp, 1) := by decide +kernel
theorem dX11_about_114 : decode cX11_about 114 = .ok (.ifCond .eq 7, 3) := by decide +kernel
theorem dX11_about_117 : decode cX11_about 117 = .ok (.iconst 1, 1) := by decide +kernel
theorem dX11_about_118 : decode cX11_about 118 = .ok (.goto 4, 3) := by decide +kernel
theorem dX11_about_121 : decode cX11_about 121 = .ok (.iconst 0, 1) := by decide +kernel
theorem dX11_about_122 : decode cX11_about 122 = .ok (.ireturn, 1) := by decide +kernel
theorem dX11_about_123 : decode cX11_about 123 = .ok (.aload_n 0, 1) := by decide +kernel
theorem dX11_about_124 : decode cX11_about 124 = .ok (.getfield 98, 3) := by decide +kernel
theorem dX11_about_127 : decode cX11_about 127 = .ok (.iload_n 1, 1) := by decide +kernel
theorem dX11_about_128 : decode cX11_about 128 = .ok (.laload, 1) := by decide +kernel
theorem dX11_about_129 : decode cX11_about 129 = .ok (.lconst 0, 1) := by decide +kernel
theorem dX11_about_130 : decode cX11_about 130 = .ok (.lcmp, 1) := by decide +kernel
theorem dX11_about_131 : decode cX11_about 131 = .ok (.ifCond .eq 7, 3) := by decide +kernel
theorem dX11_about_134 : decode cX11_about 134 = .ok (.iconst 1, 1) := by decide +kernel
theorem dX11_about_135 : decode cX11_about 135 = .ok (.goto 4, 3) := by decide +kernel
theorem dX11_about_138 : decode cX11_about 138 = .ok (.iconst 0, 1) := by decide +kernel
theorem dX11_about_139 : decode cX11_about 139 = .ok (.ireturn, 1) := by decide +kernel
theorem dX11_about_140 : decode cX11_about 140 = .ok (.iconst (-1), 1) := by decide +kernel
theorem dX11_about_141 : decode cX11_about 141 = .ok (.ireturn, 1) := by decide +kernel
theorem dX11_says_0 : decode cX11_says 0 = .ok (.aload_n 0, 1) := by decide +kernel
theorem dX11_says_1 : decode cX11_says 1 = .ok (.iconst 0, 1) := by decide +kernel
theorem dX11_says_2 : decode cX11_says 2 = .ok (.putfield 158, 3) := by decide +kernel
theorem dX11_says_5 : decode cX11_says 5 = .ok (.aload_n 0, 1) := by decide +kernel
theorem dX11_says_6 : decode cX11_says 6 = .ok (.iload_n 1, 1) := by decide +kernel
theorem dX11_says_7 : decode cX11_says 7 = .ok (.invokevirtual 328, 3) := by decide +kernel
theorem dX11_says_10 : decode cX11_says 10 = .ok (.ifCond .ne 9, 3) := by decide +kernel
theorem dX11_says_13 : decode cX11_says 13 = .ok (.aload_n 0, 1) := by decide +kernel
theorem dX11_says_14 : decode cX11_says 14 = .ok (.iconst 1, 1) := by decide +kernel
theorem dX11_says_15 : decode cX11_says 15 = .ok (.invokevirtual 194, 3) := by decide +kernel
theorem dX11_says_18 : decode cX11_says 18 = .ok (.ireturn, 1) := by decide +kernel
theorem dX11_says_19 : decode cX11_says 19 = .ok (.aload_n 0, 1) := by decide +kernel
theorem dX11_says_20 : decode cX11_says 20 = .ok (.getfield 80, 3) := by decide +kernel
theorem dX11_says_23 : decode cX11_says 23 = .ok (.iload_n 1, 1) := by decide +kernel
theorem dX11_says_24 : decode cX11_says 24 = .ok (.iaload, 1) := by decide +kernel
theorem dX11_says_25 : decode cX11_says 25 = .ok (.iconst (-1), 1) := by decide +kernel
theorem dX11_says_26 : decode cX11_says 26 = .ok (.if_icmp .eq 10, 3) := by decide +kernel
theorem dX11_says_29 : decode cX11_says 29 = .ok (.aload_n 0, 1) := by decide +kernel
theorem dX11_says_30 : decode cX11_says 30 = .ok (.bipush 6, 2) := by decide +kernel
theorem dX11_says_32 : decode cX11_says 32 = .ok (.invokevirtual 194, 3) := by decide +kernel
theorem dX11_says_35 : decode cX11_says 35 = .ok (.ireturn, 1) := by decide +kernel
theorem dX11_says_36 : decode cX11_says 36 = .ok (.iload_n 2, 1) := by decide +kernel
theorem dX11_says_37 : decode cX11_says 37 = .ok (.iconst 0, 1) := by decide +kernel
theorem dX11_says_38 : decode cX11_says 38 = .ok (.bipush 39, 2) := by decide +kernel
theorem dX11_says_40 : decode cX11_says 40 = .ok (.invokestatic 203, 3) := by decide +kernel
theorem dX11_says_43 : decode cX11_says 43 = .ok (.ifCond .eq 18, 3) := by decide +kernel
theorem dX11_says_46 : decode cX11_says 46 = .ok (.iload_n 3, 1) := by decide +kernel
theorem dX11_says_47 : decode cX11_says 47 = .ok (.ldc_w 336, 3) := by decide +kernel
theorem dX11_says_50 : decode cX11_says 50 = .ok (.if_icmp .eq 11, 3) := by decide +kernel
theorem dX11_says_53 : decode cX11_says 53 = .ok (.iload 4, 2) := by decide +kernel
theorem dX11_says_55 : decode cX11_says 55 = .ok (.invokestatic 176, 3) := by decide +kernel
theorem dX11_says_58 : decode cX11_says 58 = .ok (.ifCond .ne 9, 3) := by decide +kernel
theorem dX11_says_61 : decode cX11_says 61 = .ok (.aload_n 0, 1) := by decide +kernel
theorem dX11_says_62 : decode cX11_says 62 = .ok (.iconst 2, 1) := by decide +kernel
theorem dX11_says_63 : decode cX11_says 63 = .ok (.invokevirtual 194, 3) := by decide +kernel
theorem dX11_says_66 : decode cX11_says 66 = .ok (.ireturn, 1) := by decide +kernel
theorem dX11_says_67 : decode cX11_says 67 = .ok (.aload_n 0, 1) := by decide +kernel
theorem dX11_says_68 : decode cX11_says 68 = .ok (.getfield 83, 3) := by decide +kernel
theorem dX11_says_71 : decode cX11_says 71 = .ok (.iload_n 1, 1) := by decide +kernel
theorem dX11_says_72 : decode cX11_says 72 = .ok (.iaload, 1) := by decide +kernel
theorem dX11_says_73 : decode cX11_says 73 = .ok (.iconst 4, 1) := by decide +kernel
theorem dX11_says_74 : decode cX11_says 74 = .ok (.if_icmp .ne 9, 3) := by decide +kernel
theorem dX11_says_77 : decode cX11_says 77 = .ok (.aload_n 0, 1) := by decide +kernel
theorem dX11_says_78 : decode cX11_says 78 = .ok (.iconst 3, 1) := by decide +kernel
theorem dX11_says_79 : decode cX11_says 79 = .ok (.invokevirtual 194, 3) := by decide +kernel
theorem dX11_says_82 : decode cX11_says 82 = .ok (.ireturn, 1) := by decide +kernel
theorem dX11_says_83 : decode cX11_says 83 = .ok (.iconst 4, 1) := by decide +kernel
theorem dX11_says_84 : decode cX11_says 84 = .ok (.iload_n 1, 1) := by decide +kernel
theorem dX11_says_85 : decode cX11_says 85 = .ok (.imul, 1) := by decide +kernel
theorem dX11_says_86 : decode cX11_says 86 = .ok (.aload_n 0, 1) := by decide +kernel
theorem dX11_says_87 : decode cX11_says 87 = .ok (.getfield 83, 3) := by decide +kernel
theorem dX11_says_90 : decode cX11_says 90 = .ok (.iload_n 1, 1) := by decide +kernel
theorem dX11_says_91 : decode cX11_says 91 = .ok (.iaload, 1) := by decide +kernel
theorem dX11_says_92 : decode cX11_says 92 = .ok (.iadd, 1) := by decide +kernel
theorem dX11_says_93 : decode cX11_says 93 = .ok (.istore 5, 2) := by decide +kernel
theorem dX11_says_95 : decode cX11_says 95 = .ok (.aload_n 0, 1) := by decide +kernel
theorem dX11_says_96 : decode cX11_says 96 = .ok (.getfield 104, 3) := by decide +kernel
theorem dX11_says_99 : decode cX11_says 99 = .ok (.iload 5, 2) := by decide +kernel
theorem dX11_says_101 : decode cX11_says 101 = .ok (.iload_n 2, 1) := by decide +kernel
theorem dX11_says_102 : decode cX11_says 102 = .ok (.iastore, 1) := by decide +kernel
theorem dX11_says_103 : decode cX11_says 103 = .ok (.aload_n 0, 1) := by decide +kernel
theorem dX11_says_104 : decode cX11_says 104 = .ok (.getfield 107, 3) := by decide +kernel
theorem dX11_says_107 : decode cX11_says 107 = .ok (.iload 5, 2) := by decide +kernel
theorem dX11_says_109 : decode cX11_says 109 = .ok (.iload_n 3, 1) := by decide +kernel
theorem dX11_says_110 : decode cX11_says 110 = .ok (.iastore, 1) := by decide +kernel
theorem dX11_says_111 : decode cX11_says 111 = .ok (.aload_n 0, 1) := by decide +kernel
theorem dX11_says_112 : decode cX11_says 112 = .ok (.getfield 110, 3) := by decide +kernel
theorem dX11_says_115 : decode cX11_says 115 = .ok (.iload 5, 2) := by decide +kernel
theorem dX11_says_117 : decode cX11_says 117 = .ok (.iload 4, 2) := by decide +kernel
theorem dX11_says_119 : decode cX11_says 119 = .ok (.iastore, 1) := by decide +kernel
theorem dX11_says_120 : decode cX11_says 120 = .ok (.aload_n 0, 1) := by decide +kernel
theorem dX11_says_121 : decode cX11_says 121 = .ok (.iconst 3, 1) := by decide +kernel
theorem dX11_says_122 : decode cX11_says 122 = .ok (.iload_n 1, 1) := by decide +kernel
theorem dX11_says_123 : decode cX11_says 123 = .ok (.lconst 0, 1) := by decide +kernel
theorem dX11_says_124 : decode cX11_says 124 = .ok (.lconst 0, 1) := by decide +kernel
theorem dX11_says_125 : decode cX11_says 125 = .ok (.invokevirtual 183, 3) := by decide +kernel
theorem dX11_says_128 : decode cX11_says 128 = .ok (.aload_n 0, 1) := by decide +kernel
theorem dX11_says_129 : decode cX11_says 129 = .ok (.getfield 83, 3) := by decide +kernel
theorem dX11_says_132 : decode cX11_says 132 = .ok (.iload_n 1, 1) := by decide +kernel
theorem dX11_says_133 : decode cX11_says 133 = .ok (.dup2, 1) := by decide +kernel
theorem dX11_says_134 : decode cX11_says 134 = .ok (.iaload, 1) := by decide +kernel
theorem dX11_says_135 : decode cX11_says 135 = .ok (.iconst 1, 1) := by decide +kernel
theorem dX11_says_136 : decode cX11_says 136 = .ok (.iadd, 1) := by decide +kernel
theorem dX11_says_137 : decode cX11_says 137 = .ok (.iastore, 1) := by decide +kernel
theorem dX11_says_138 : decode cX11_says 138 = .ok (.aload_n 0, 1) := by decide +kernel
theorem dX11_says_139 : decode cX11_says 139 = .ok (.aload_n 0, 1) := by decide +kernel
theorem dX11_says_140 : decode cX11_says 140 = .ok (.getfield 83, 3) := by decide +kernel
theorem dX11_says_143 : decode cX11_says 143 = .ok (.iload_n 1, 1) := by decide +kernel
theorem dX11_says_144 : decode cX11_says 144 = .ok (.iaload, 1) := by decide +kernel
theorem dX11_says_145 : decode cX11_says 145 = .ok (.invokevirtual 190, 3) := by decide +kernel
theorem dX11_says_148 : decode cX11_says 148 = .ok (.ireturn, 1) := by decide +kernel
theorem dX11_waits_0 : decode cX11_waits 0 = .ok (.aload_n 0, 1) := by decide +kernel
theorem dX11_waits_1 : decode cX11_waits 1 = .ok (.iload_n 1, 1) := by decide +kernel
theorem dX11_waits_2 : decode cX11_waits 2 = .ok (.invokevirtual 328, 3) := by decide +kernel
theorem dX11_waits_5 : decode cX11_waits 5 = .ok (.ifCond .ne 9, 3) := by decide +kernel
theorem dX11_waits_8 : decode cX11_waits 8 = .ok (.aload_n 0, 1) := by decide +kernel
theorem dX11_waits_9 : decode cX11_waits 9 = .ok (.iconst 1, 1) := by decide +kernel
theorem dX11_waits_10 : decode cX11_waits 10 = .ok (.invokevirtual 180, 3) := by decide +kernel
theorem dX11_waits_13 : decode cX11_waits 13 = .ok (.ireturn, 1) := by decide +kernel
theorem dX11_waits_14 : decode cX11_waits 14 = .ok (.aload_n 0, 1) := by decide +kernel
theorem dX11_waits_15 : decode cX11_waits 15 = .ok (.getfield 80, 3) := by decide +kernel
theorem dX11_waits_18 : decode cX11_waits 18 = .ok (.iload_n 1, 1) := by decide +kernel
theorem dX11_waits_19 : decode cX11_waits 19 = .ok (.iaload, 1) := by decide +kernel
theorem dX11_waits_20 : decode cX11_waits 20 = .ok (.iconst (-1), 1) := by decide +kernel
theorem dX11_waits_21 : decode cX11_waits 21 = .ok (.if_icmp .eq 12, 3) := by decide +kernel
theorem dX11_waits_24 : decode cX11_waits 24 = .ok (.aload_n 0, 1) := by decide +kernel
theorem dX11_waits_25 : decode cX11_waits 25 = .ok (.bipush 6, 2) := by decide +kernel
theorem dX11_waits_27 : decode cX11_waits 27 = .ok (.invokevirtual 180, 3) := by decide +kernel
theorem dX11_waits_30 : decode cX11_waits 30 = .ok (.ifCond .eq 7, 3) := by decide +kernel
theorem dX11_waits_33 : decode cX11_waits 33 = .ok (.iconst 1, 1) := by decide +kernel
theorem dX11_waits_34 : decode cX11_waits 34 = .ok (.goto 4, 3) := by decide +kernel
theorem dX11_waits_37 : decode cX11_waits 37 = .ok (.iconst 0, 1) := by decide +kernel
theorem dX11_waits_38 : decode cX11_waits 38 = .ok (.ireturn, 1) := by decide +kernel
theorem dX11_granted_0 : decode cX11_granted 0 = .ok (.aload_n 0, 1) := by decide +kernel
theorem dX11_granted_1 : decode cX11_granted 1 = .ok (.iconst 0, 1) := by decide +kernel
theorem dX11_granted_2 : decode cX11_granted 2 = .ok (.putfield 161, 3) := by decide +kernel
theorem dX11_granted_5 : decode cX11_granted 5 = .ok (.aload_n 0, 1) := by decide +kernel
theorem dX11_granted_6 : decode cX11_granted 6 = .ok (.iconst (-1), 1) := by decide +kernel
theorem dX11_granted_7 : decode cX11_granted 7 = .ok (.putfield 11, 3) := by decide +kernel
theorem dX11_granted_10 : decode cX11_granted 10 = .ok (.iconst 1, 1) := by decide +kernel
theorem dX11_granted_11 : decode cX11_granted 11 = .ok (.ireturn, 1) := by decide +kernel
theorem dX11_corrects_0 : decode cX11_corrects 0 = .ok (.aload_n 0, 1) := by decide +kernel
theorem dX11_corrects_1 : decode cX11_corrects 1 = .ok (.iconst 0, 1) := by decide +kernel
theorem dX11_corrects_2 : decode cX11_corrects 2 = .ok (.putfield 158, 3) := by decide +kernel
theorem dX11_corrects_5 : decode cX11_corrects 5 = .ok (.aload_n 0, 1) := by decide +kernel
theorem dX11_corrects_6 : decode cX11_corrects 6 = .ok (.iload_n 2, 1) := by decide +kernel
theorem dX11_corrects_7 : decode cX11_corrects 7 = .ok (.invokevirtual 328, 3) := by decide +kernel
theorem dX11_corrects_10 : decode cX11_corrects 10 = .ok (.ifCond .ne 9, 3) := by decide +kernel
theorem dX11_corrects_13 : decode cX11_corrects 13 = .ok (.aload_n 0, 1) := by decide +kernel
theorem dX11_corrects_14 : decode cX11_corrects 14 = .ok (.iconst 1, 1) := by decide +kernel
theorem dX11_corrects_15 : decode cX11_corrects 15 = .ok (.invokevirtual 180, 3) := by decide +kernel
theorem dX11_corrects_18 : decode cX11_corrects 18 = .ok (.ireturn, 1) := by decide +kernel
theorem dX11_corrects_19 : decode cX11_corrects 19 = .ok (.aload_n 0, 1) := by decide +kernel
theorem dX11_corrects_20 : decode cX11_corrects 20 = .ok (.iload_n 1, 1) := by decide +kernel
theorem dX11_corrects_21 : decode cX11_corrects 21 = .ok (.invokevirtual 337, 3) := by decide +kernel
theorem dX11_corrects_24 : decode cX11_corrects 24 = .ok (.ifCond .ne 5, 3) := by decide +kernel
theorem dX11_corrects_27 : decode cX11_corrects 27 = .ok (.iconst 0, 1) := by decide +kernel
theorem dX11_corrects_28 : decode cX11_corrects 28 = .ok (.ireturn, 1) := by decide +kernel
theorem dX11_corrects_29 : decode cX11_corrects 29 = .ok (.iload_n 2, 1) := by decide +kernel
theorem dX11_corrects_30 : decode cX11_corrects 30 = .ok (.iload_n 1, 1) := by decide +kernel
theorem dX11_corrects_31 : decode cX11_corrects 31 = .ok (.if_icmp .lt 9, 3) := by decide +kernel
theorem dX11_corrects_34 : decode cX11_corrects 34 = .ok (.aload_n 0, 1) := by decide +kernel
theorem dX11_corrects_35 : decode cX11_corrects 35 = .ok (.iconst 2, 1) := by decide +kernel
theorem dX11_corrects_36 : decode cX11_corrects 36 = .ok (.invokevirtual 180, 3) := by decide +kernel
theorem dX11_corrects_39 : decode cX11_corrects 39 = .ok (.ireturn, 1) := by decide +kernel
theorem dX11_corrects_40 : decode cX11_corrects 40 = .ok (.aload_n 0, 1) := by decide +kernel
theorem dX11_corrects_41 : decode cX11_corrects 41 = .ok (.iconst 4, 1) := by decide +kernel
theorem dX11_corrects_42 : decode cX11_corrects 42 = .ok (.iload_n 1, 1) := by decide +kernel
theorem dX11_corrects_43 : decode cX11_corrects 43 = .ok (.aload_n 0, 1) := by decide +kernel
theorem dX11_corrects_44 : decode cX11_corrects 44 = .ok (.getfield 86, 3) := by decide +kernel
theorem dX11_corrects_47 : decode cX11_corrects 47 = .ok (.iload_n 1, 1) := by decide +kernel
theorem dX11_corrects_48 : decode cX11_corrects 48 = .ok (.iaload, 1) := by decide +kernel
theorem dX11_corrects_49 : decode cX11_corrects 49 = .ok (.i2l, 1) := by decide +kernel
theorem dX11_corrects_50 : decode cX11_corrects 50 = .ok (.lconst 0, 1) := by decide +kernel
theorem dX11_corrects_51 : decode cX11_corrects 51 = .ok (.invokevirtual 183, 3) := by decide +kernel
theorem dX11_corrects_54 : decode cX11_corrects 54 = .ok (.aload_n 0, 1) := by decide +kernel
theorem dX11_corrects_55 : decode cX11_corrects 55 = .ok (.getfield 86, 3) := by decide +kernel
theorem dX11_corrects_58 : decode cX11_corrects 58 = .ok (.iload_n 1, 1) := by decide +kernel
theorem dX11_corrects_59 : decode cX11_corrects 59 = .ok (.iload_n 2, 1) := by decide +kernel
theorem dX11_corrects_60 : decode cX11_corrects 60 = .ok (.iastore, 1) := by decide +kernel
theorem dX11_corrects_61 : decode cX11_corrects 61 = .ok (.aload_n 0, 1) := by decide +kernel
theorem dX11_corrects_62 : decode cX11_corrects 62 = .ok (.invokevirtual 340, 3) := by decide +kernel
theorem dX11_corrects_65 : decode cX11_corrects 65 = .ok (.ireturn, 1) := by decide +kernel
theorem dX11_isWord_0 : decode cX11_isWord 0 = .ok (.lload_n 0, 1) := by decide +kernel
theorem dX11_isWord_1 : decode cX11_isWord 1 = .ok (.lconst 0, 1) := by decide +kernel
theorem dX11_isWord_2 : decode cX11_isWord 2 = .ok (.lcmp, 1) := by decide +kernel
theorem dX11_isWord_3 : decode cX11_isWord 3 = .ok (.ifCond .le 11, 3) := by decide +kernel
theorem dX11_isWord_6 : decode cX11_isWord 6 = .ok (.lload_n 0, 1) := by decide +kernel
theorem dX11_isWord_7 : decode cX11_isWord 7 = .ok (.ldc2_w 344, 3) := by decide +kernel
theorem dX11_isWord_10 : decode cX11_isWord 10 = .ok (.lcmp, 1) := by decide +kernel
theorem dX11_isWord_11 : decode cX11_isWord 11 = .ok (.ifCond .lt 5, 3) := by decide +kernel
theorem dX11_isWord_14 : decode cX11_isWord 14 = .ok (.iconst 0, 1) := by decide +kernel
theorem dX11_isWord_15 : decode cX11_isWord 15 = .ok (.ireturn, 1) := by decide +kernel
theorem dX11_isWord_16 : decode cX11_isWord 16 = .ok (.iconst 1, 1) := by decide +kernel
theorem dX11_isWord_17 : decode cX11_isWord 17 = .ok (.istore_n 2, 1) := by decide +kernel
theorem dX11_isWord_18 : decode cX11_isWord 18 = .ok (.lload_n 0, 1) := by decide +kernel
theorem dX11_isWord_19 : decode cX11_isWord 19 = .ok (.lstore_n 3, 1) := by decide +kernel
theorem dX11_isWord_20 : decode cX11_isWord 20 = .ok (.lload_n 3, 1) := by decide +kernel
theorem dX11_isWord_21 : decode cX11_isWord 21 = .ok (.lconst 0, 1) := by decide +kernel
theorem dX11_isWord_22 : decode cX11_isWord 22 = .ok (.lcmp, 1) := by decide +kernel
theorem dX11_isWord_23 : decode cX11_isWord 23 = .ok (.ifCond .le 42, 3) := by decide +kernel
theorem dX11_isWord_26 : decode cX11_isWord 26 = .ok (.iload_n 2, 1) := by decide +kernel
theorem dX11_isWord_27 : decode cX11_isWord 27 = .ok (.ifCond .eq 29, 3) := by decide +kernel
theorem dX11_isWord_30 : decode cX11_isWord 30 = .ok (.lload_n 3, 1) := by decide +kernel
theorem dX11_isWord_31 : decode cX11_isWord 31 = .ok (.ldc2_w 346, 3) := by decide +kernel
theorem dX11_isWord_34 : decode cX11_isWord 34 = .ok (.land, 1) := by decide +kernel
theorem dX11_isWord_35 : decode cX11_isWord 35 = .ok (.lconst 0, 1) := by decide +kernel
theorem dX11_isWord_36 : decode cX11_isWord 36 = .ok (.lcmp, 1) := by decide +kernel
theorem dX11_isWord_37 : decode cX11_isWord 37 = .ok (.ifCond .le 19, 3) := by decide +kernel
theorem dX11_isWord_40 : decode cX11_isWord 40 = .ok (.lload_n 3, 1) := by decide +kernel
theorem dX11_isWord_41 : decode cX11_isWord 41 = .ok (.ldc2_w 346, 3) := by decide +kernel
theorem dX11_isWord_44 : decode cX11_isWord 44 = .ok (.land, 1) := by decide +kernel
theorem dX11_isWord_45 : decode cX11_isWord 45 = .ok (.ldc2_w 348, 3) := by decide +kernel
theorem dX11_isWord_48 : decode cX11_isWord 48 = .ok (.lcmp, 1) := by decide +kernel
theorem dX11_isWord_49 : decode cX11_isWord 49 = .ok (.ifCond .ge 7, 3) := by decide +kernel
theorem dX11_isWord_52 : decode cX11_isWord 52 = .ok (.iconst 1, 1) := by decide +kernel
theorem dX11_isWord_53 : decode cX11_isWord 53 = .ok (.goto 4, 3) := by decide +kernel
theorem dX11_isWord_56 : decode cX11_isWord 56 = .ok (.iconst 0, 1) := by decide +kernel
theorem dX11_isWord_57 : decode cX11_isWord 57 = .ok (.istore_n 2, 1) := by decide +kernel
theorem dX11_isWord_58 : decode cX11_isWord 58 = .ok (.lload_n 3, 1) := by decide +kernel
theorem dX11_isWord_59 : decode cX11_isWord 59 = .ok (.iconst 5, 1) := by decide +kernel
theorem dX11_isWord_60 : decode cX11_isWord 60 = .ok (.lshr, 1) := by decide +kernel
theorem dX11_isWord_61 : decode cX11_isWord 61 = .ok (.lstore_n 3, 1) := by decide +kernel
theorem dX11_isWord_62 : decode cX11_isWord 62 = .ok (.goto (-42), 3) := by decide +kernel
theorem dX11_isWord_65 : decode cX11_isWord 65 = .ok (.iload_n 2, 1) := by decide +kernel
theorem dX11_isWord_66 : decode cX11_isWord 66 = .ok (.ireturn, 1) := by decide +kernel
theorem dX11_renames_0 : decode cX11_renames 0 = .ok (.aload_n 0, 1) := by decide +kernel
theorem dX11_renames_1 : decode cX11_renames 1 = .ok (.iconst 0, 1) := by decide +kernel
theorem dX11_renames_2 : decode cX11_renames 2 = .ok (.putfield 158, 3) := by decide +kernel
theorem dX11_renames_5 : decode cX11_renames 5 = .ok (.aload_n 0, 1) := by decide +kernel
theorem dX11_renames_6 : decode cX11_renames 6 = .ok (.iload_n 1, 1) := by decide +kernel
theorem dX11_renames_7 : decode cX11_renames 7 = .ok (.invokevirtual 337, 3) := by decide +kernel
theorem dX11_renames_10 : decode cX11_renames 10 = .ok (.ifCond .ne 5, 3) := by decide +kernel
theorem dX11_renames_13 : decode cX11_renames 13 = .ok (.iconst 0, 1) := by decide +kernel
theorem dX11_renames_14 : decode cX11_renames 14 = .ok (.ireturn, 1) := by decide +kernel
theorem dX11_renames_15 : decode cX11_renames 15 = .ok (.lload_n 2, 1) := by decide +kernel
theorem dX11_renames_16 : decode cX11_renames 16 = .ok (.invokestatic 350, 3) := by decide +kernel
theorem dX11_renames_19 : decode cX11_renames 19 = .ok (.ifCond .eq 18, 3) := by decide +kernel
theorem dX11_renames_22 : decode cX11_renames 22 = .ok (.lload 4, 2) := by decide +kernel
theorem dX11_renames_24 : decode cX11_renames 24 = .ok (.invokestatic 350, 3) := by decide +kernel
theorem dX11_renames_27 : decode cX11_renames 27 = .ok (.ifCond .eq 10, 3) := by decide +kernel
theorem dX11_renames_30 : decode cX11_renames 30 = .ok (.lload_n 2, 1) := by decide +kernel
theorem dX11_renames_31 : decode cX11_renames 31 = .ok (.lload 4, 2) := by decide +kernel
theorem dX11_renames_33 : decode cX11_renames 33 = .ok (.lcmp, 1) := by decide +kernel
theorem dX11_renames_34 : decode cX11_renames 34 = .ok (.ifCond .ne 9, 3) := by decide +kernel
theorem dX11_renames_37 : decode cX11_renames 37 = .ok (.aload_n 0, 1) := by decide +kernel
theorem dX11_renames_38 : decode cX11_renames 38 = .ok (.iconst 2, 1) := by decide +kernel
theorem dX11_renames_39 : decode cX11_renames 39 = .ok (.invokevirtual 180, 3) := by decide +kernel
theorem dX11_renames_42 : decode cX11_renames 42 = .ok (.ireturn, 1) := by decide +kernel
theorem dX11_renames_43 : decode cX11_renames 43 = .ok (.aload_n 0, 1) := by decide +kernel
theorem dX11_renames_44 : decode cX11_renames 44 = .ok (.iconst 5, 1) := by decide +kernel
theorem dX11_renames_45 : decode cX11_renames 45 = .ok (.iload_n 1, 1) := by decide +kernel
theorem dX11_renames_46 : decode cX11_renames 46 = .ok (.aload_n 0, 1) := by decide +kernel
theorem dX11_renames_47 : decode cX11_renames 47 = .ok (.getfield 92, 3) := by decide +kernel
theorem dX11_renames_50 : decode cX11_renames 50 = .ok (.iload_n 1, 1) := by decide +kernel
theorem dX11_renames_51 : decode cX11_renames 51 = .ok (.laload, 1) := by decide +kernel
theorem dX11_renames_52 : decode cX11_renames 52 = .ok (.aload_n 0, 1) := by decide +kernel
theorem dX11_renames_53 : decode cX11_renames 53 = .ok (.getfield 95, 3) := by decide +kernel
theorem dX11_renames_56 : decode cX11_renames 56 = .ok (.iload_n 1, 1) := by decide +kernel
theorem dX11_renames_57 : decode cX11_renames 57 = .ok (.laload, 1) := by decide +kernel
theorem dX11_renames_58 : decode cX11_renames 58 = .ok (.invokevirtual 183, 3) := by decide +kernel
theorem dX11_renames_61 : decode cX11_renames 61 = .ok (.aload_n 0, 1) := by decide +kernel
theorem dX11_renames_62 : decode cX11_renames 62 = .ok (.getfield 92, 3) := by decide +kernel
theorem dX11_renames_65 : decode cX11_renames 65 = .ok (.iload_n 1, 1) := by decide +kernel
theorem dX11_renames_66 : decode cX11_renames 66 = .ok (.lload_n 2, 1) := by decide +kernel
theorem dX11_renames_67 : decode cX11_renames 67 = .ok (.lastore, 1) := by decide +kernel
theorem dX11_renames_68 : decode cX11_renames 68 = .ok (.aload_n 0, 1) := by decide +kernel
theorem dX11_renames_69 : decode cX11_renames 69 = .ok (.getfield 95, 3) := by decide +kernel
theorem dX11_renames_72 : decode cX11_renames 72 = .ok (.iload_n 1, 1) := by decide +kernel
theorem dX11_renames_73 : decode cX11_renames 73 = .ok (.lload 4, 2) := by decide +kernel
theorem dX11_renames_75 : decode cX11_renames 75 = .ok (.lastore, 1) := by decide +kernel
theorem dX11_renames_76 : decode cX11_renames 76 = .ok (.aload_n 0, 1) := by decide +kernel
theorem dX11_renames_77 : decode cX11_renames 77 = .ok (.invokevirtual 340, 3) := by decide +kernel
theorem dX11_renames_80 : decode cX11_renames 80 = .ok (.ireturn, 1) := by decide +kernel
theorem dX11_strikes_0 : decode cX11_strikes 0 = .ok (.aload_n 0, 1) := by decide +kernel
theorem dX11_strikes_1 : decode cX11_strikes 1 = .ok (.iconst 0, 1) := by decide +kernel
theorem dX11_strikes_2 : decode cX11_strikes 2 = .ok (.putfield 158, 3) := by decide +kernel
theorem dX11_strikes_5 : decode cX11_strikes 5 = .ok (.aload_n 0, 1) := by decide +kernel
theorem dX11_strikes_6 : decode cX11_strikes 6 = .ok (.iload_n 1, 1) := by decide +kernel
theorem dX11_strikes_7 : decode cX11_strikes 7 = .ok (.invokevirtual 337, 3) := by decide +kernel
theorem dX11_strikes_10 : decode cX11_strikes 10 = .ok (.ifCond .ne 5, 3) := by decide +kernel
theorem dX11_strikes_13 : decode cX11_strikes 13 = .ok (.iconst 0, 1) := by decide +kernel
theorem dX11_strikes_14 : decode cX11_strikes 14 = .ok (.ireturn, 1) := by decide +kernel
theorem dX11_strikes_15 : decode cX11_strikes 15 = .ok (.lload_n 2, 1) := by decide +kernel
theorem dX11_strikes_16 : decode cX11_strikes 16 = .ok (.invokestatic 350, 3) := by decide +kernel
theorem dX11_strikes_19 : decode cX11_strikes 19 = .ok (.ifCond .ne 9, 3) := by decide +kernel
theorem dX11_strikes_22 : decode cX11_strikes 22 = .ok (.aload_n 0, 1) := by decide +kernel
theorem dX11_strikes_23 : decode cX11_strikes 23 = .ok (.iconst 2, 1) := by decide +kernel
theorem dX11_strikes_24 : decode cX11_strikes 24 = .ok (.invokevirtual 180, 3) := by decide +kernel
theorem dX11_strikes_27 : decode cX11_strikes 27 = .ok (.ireturn, 1) := by decide +kernel
theorem dX11_strikes_28 : decode cX11_strikes 28 = .ok (.aload_n 0, 1) := by decide +kernel
theorem dX11_strikes_29 : decode cX11_strikes 29 = .ok (.bipush 6, 2) := by decide +kernel
theorem dX11_strikes_31 : decode cX11_strikes 31 = .ok (.iload_n 1, 1) := by decide +kernel
theorem dX11_strikes_32 : decode cX11_strikes 32 = .ok (.aload_n 0, 1) := by decide +kernel
theorem dX11_strikes_33 : decode cX11_strikes 33 = .ok (.getfield 98, 3) := by decide +kernel
theorem dX11_strikes_36 : decode cX11_strikes 36 = .ok (.iload_n 1, 1) := by decide +kernel
theorem dX11_strikes_37 : decode cX11_strikes 37 = .ok (.laload, 1) := by decide +kernel
theorem dX11_strikes_38 : decode cX11_strikes 38 = .ok (.lconst 0, 1) := by decide +kernel
theorem dX11_strikes_39 : decode cX11_strikes 39 = .ok (.invokevirtual 183, 3) := by decide +kernel
theorem dX11_strikes_42 : decode cX11_strikes 42 = .ok (.aload_n 0, 1) := by decide +kernel
theorem dX11_strikes_43 : decode cX11_strikes 43 = .ok (.getfield 98, 3) := by decide +kernel
theorem dX11_strikes_46 : decode cX11_strikes 46 = .ok (.iload_n 1, 1) := by decide +kernel
theorem dX11_strikes_47 : decode cX11_strikes 47 = .ok (.lload_n 2, 1) := by decide +kernel
theorem dX11_strikes_48 : decode cX11_strikes 48 = .ok (.lastore, 1) := by decide +kernel
theorem dX11_strikes_49 : decode cX11_strikes 49 = .ok (.aload_n 0, 1) := by decide +kernel
theorem dX11_strikes_50 : decode cX11_strikes 50 = .ok (.invokevirtual 340, 3) := by decide +kernel
theorem dX11_strikes_53 : decode cX11_strikes 53 = .ok (.ireturn, 1) := by decide +kernel
theorem dX11_packs_0 : decode cX11_packs 0 = .ok (.aload_n 0, 1) := by decide +kernel
theorem dX11_packs_1 : decode cX11_packs 1 = .ok (.getfield 354, 3) := by decide +kernel
theorem dX11_packs_4 : decode cX11_packs 4 = .ok (.bipush 12, 2) := by decide +kernel
theorem dX11_packs_6 : decode cX11_packs 6 = .ok (.if_icmp .eq 13, 3) := by decide +kernel
theorem dX11_packs_9 : decode cX11_packs 9 = .ok (.aload_n 0, 1) := by decide +kernel
theorem dX11_packs_10 : decode cX11_packs 10 = .ok (.getfield 74, 3) := by decide +kernel
theorem dX11_packs_13 : decode cX11_packs 13 = .ok (.iload_n 1, 1) := by decide +kernel
theorem dX11_packs_14 : decode cX11_packs 14 = .ok (.iaload, 1) := by decide +kernel
theorem dX11_packs_15 : decode cX11_packs 15 = .ok (.iload_n 3, 1) := by decide +kernel
theorem dX11_packs_16 : decode cX11_packs 16 = .ok (.if_icmp .le 5, 3) := by decide +kernel
theorem dX11_packs_19 : decode cX11_packs 19 = .ok (.iconst 0, 1) := by decide +kernel
theorem dX11_packs_20 : decode cX11_packs 20 = .ok (.ireturn, 1) := by decide +kernel
theorem dX11_packs_21 : decode cX11_packs 21 = .ok (.aload_n 0, 1) := by decide +kernel
theorem dX11_packs_22 : decode cX11_packs 22 = .ok (.getfield 131, 3) := by decide +kernel
theorem dX11_packs_25 : decode cX11_packs 25 = .ok (.aload_n 0, 1) := by decide +kernel
theorem dX11_packs_26 : decode cX11_packs 26 = .ok (.getfield 354, 3) := by decide +kernel
theorem dX11_packs_29 : decode cX11_packs 29 = .ok (.iload_n 1, 1) := by decide +kernel
theorem dX11_packs_30 : decode cX11_packs 30 = .ok (.iastore, 1) := by decide +kernel
theorem dX11_packs_31 : decode cX11_packs 31 = .ok (.iconst 1, 1) := by decide +kernel
theorem dX11_packs_32 : decode cX11_packs 32 = .ok (.aload_n 0, 1) := by decide +kernel
theorem dX11_packs_33 : decode cX11_packs 33 = .ok (.getfield 354, 3) := by decide +kernel
theorem dX11_packs_36 : decode cX11_packs 36 = .ok (.ishl, 1) := by decide +kernel
theorem dX11_packs_37 : decode cX11_packs 37 = .ok (.istore 4, 2) := by decide +kernel
theorem dX11_packs_39 : decode cX11_packs 39 = .ok (.iload 4, 2) := by decide +kernel
theorem dX11_packs_41 : decode cX11_packs 41 = .ok (.istore 5, 2) := by decide +kernel
theorem dX11_packs_43 : decode cX11_packs 43 = .ok (.iload 5, 2) := by decide +kernel
theorem dX11_packs_45 : decode cX11_packs 45 = .ok (.iconst 2, 1) := by decide +kernel
theorem dX11_packs_46 : decode cX11_packs 46 = .ok (.iload 4, 2) := by decide +kernel
theorem dX11_packs_48 : decode cX11_packs 48 = .ok (.imul, 1) := by decide +kernel
theorem dX11_packs_49 : decode cX11_packs 49 = .ok (.if_icmp .ge 205, 3) := by decide +kernel
theorem dX11_packs_52 : decode cX11_packs 52 = .ok (.aload_n 0, 1) := by decide +kernel
theorem dX11_packs_53 : decode cX11_packs 53 = .ok (.getfield 134, 3) := by decide +kernel
theorem dX11_packs_56 : decode cX11_packs 56 = .ok (.iload 5, 2) := by decide +kernel
theorem dX11_packs_58 : decode cX11_packs 58 = .ok (.bipush 13, 2) := by decide +kernel
theorem dX11_packs_60 : decode cX11_packs 60 = .ok (.iastore, 1) := by decide +kernel
theorem dX11_packs_61 : decode cX11_packs 61 = .ok (.aload_n 0, 1) := by decide +kernel
theorem dX11_packs_62 : decode cX11_packs 62 = .ok (.getfield 137, 3) := by decide +kernel
theorem dX11_packs_65 : decode cX11_packs 65 = .ok (.iload 5, 2) := by decide +kernel
theorem dX11_packs_67 : decode cX11_packs 67 = .ok (.iconst 0, 1) := by decide +kernel
theorem dX11_packs_68 : decode cX11_packs 68 = .ok (.iastore, 1) := by decide +kernel
theorem dX11_packs_69 : decode cX11_packs 69 = .ok (.iconst 0, 1) := by decide +kernel
theorem dX11_packs_70 : decode cX11_packs 70 = .ok (.istore 6, 2) := by decide +kernel
theorem dX11_packs_72 : decode cX11_packs 72 = .ok (.iload 6, 2) := by decide +kernel
theorem dX11_packs_74 : decode cX11_packs 74 = .ok (.aload_n 0, 1) := by decide +kernel
theorem dX11_packs_75 : decode cX11_packs 75 = .ok (.getfield 354, 3) := by decide +kernel
theorem dX11_packs_78 : decode cX11_packs 78 = .ok (.if_icmp .gt 170, 3) := by decide +kernel
theorem dX11_packs_81 : decode cX11_packs 81 = .ok (.iload 5, 2) := by decide +kernel
theorem dX11_packs_83 : decode cX11_packs 83 = .ok (.iload 6, 2) := by decide +kernel
theorem dX11_packs_85 : decode cX11_packs 85 = .ok (.ishr, 1) := by decide +kernel
theorem dX11_packs_86 : decode cX11_packs 86 = .ok (.iconst 1, 1) := by decide +kernel
theorem dX11_packs_87 : decode cX11_packs 87 = .ok (.iand, 1) := by decide +kernel
theorem dX11_packs_88 : decode cX11_packs 88 = .ok (.ifCond .ne 6, 3) := by decide +kernel
theorem dX11_packs_91 : decode cX11_packs 91 = .ok (.goto 151, 3) := by decide +kernel
theorem dX11_packs_94 : decode cX11_packs 94 = .ok (.iload 5, 2) := by decide +kernel
theorem dX11_packs_96 : decode cX11_packs 96 = .ok (.iconst 1, 1) := by decide +kernel
theorem dX11_packs_97 : decode cX11_packs 97 = .ok (.iload 6, 2) := by decide +kernel
theorem dX11_packs_99 : decode cX11_packs 99 = .ok (.ishl, 1) := by decide +kernel
theorem dX11_packs_100 : decode cX11_packs 100 = .ok (.isub, 1) := by decide +kernel
theorem dX11_packs_101 : decode cX11_packs 101 = .ok (.istore 7, 2) := by decide +kernel
theorem dX11_packs_103 : decode cX11_packs 103 = .ok (.iload 7, 2) := by decide +kernel
theorem dX11_packs_105 : decode cX11_packs 105 = .ok (.ifCond .eq 29, 3) := by decide +kernel
theorem dX11_packs_108 : decode cX11_packs 108 = .ok (.aload_n 0, 1) := by decide +kernel
theorem dX11_packs_109 : decode cX11_packs 109 = .ok (.getfield 137, 3) := by decide +kernel
theorem dX11_packs_112 : decode cX11_packs 112 = .ok (.iload 7, 2) := by decide +kernel
theorem dX11_packs_114 : decode cX11_packs 114 = .ok (.iaload, 1) := by decide +kernel
theorem dX11_packs_115 : decode cX11_packs 115 = .ok (.aload_n 0, 1) := by decide +kernel
theorem dX11_packs_116 : decode cX11_packs 116 = .ok (.getfield 74, 3) := by decide +kernel
theorem dX11_packs_119 : decode cX11_packs 119 = .ok (.aload_n 0, 1) := by decide +kernel
theorem dX11_packs_120 : decode cX11_packs 120 = .ok (.getfield 131, 3) := by decide +kernel
theorem dX11_packs_123 : decode cX11_packs 123 = .ok (.iload 6, 2) := by decide +kernel
theorem dX11_packs_125 : decode cX11_packs 125 = .ok (.iaload, 1) := by decide +kernel
theorem dX11_packs_126 : decode cX11_packs 126 = .ok (.iaload, 1) := by decide +kernel
theorem dX11_packs_127 : decode cX11_packs 127 = .ok (.if_icmp .lt 7, 3) := by decide +kernel
theorem dX11_packs_130 : decode cX11_packs 130 = .ok (.iconst 1, 1) := by decide +kernel
theorem dX11_packs_131 : decode cX11_packs 131 = .ok (.goto 4, 3) := by decide +kernel
theorem dX11_packs_134 : decode cX11_packs 134 = .ok (.iconst 0, 1) := by decide +kernel
theorem dX11_packs_135 : decode cX11_packs 135 = .ok (.istore 8, 2) := by decide +kernel
theorem dX11_packs_137 : decode cX11_packs 137 = .ok (.aload_n 0, 1) := by decide +kernel
theorem dX11_packs_138 : decode cX11_packs 138 = .ok (.getfield 134, 3) := by decide +kernel
theorem dX11_packs_141 : decode cX11_packs 141 = .ok (.iload 7, 2) := by decide +kernel
theorem dX11_packs_143 : decode cX11_packs 143 = .ok (.iaload, 1) := by decide +kernel
theorem dX11_packs_144 : decode cX11_packs 144 = .ok (.iload 8, 2) := by decide +kernel
theorem dX11_packs_146 : decode cX11_packs 146 = .ok (.ifCond .eq 7, 3) := by decide +kernel
theorem dX11_packs_149 : decode cX11_packs 149 = .ok (.iconst 0, 1) := by decide +kernel
theorem dX11_packs_150 : decode cX11_packs 150 = .ok (.goto 4, 3) := by decide +kernel
theorem dX11_packs_153 : decode cX11_packs 153 = .ok (.iconst 1, 1) := by decide +kernel
theorem dX11_packs_154 : decode cX11_packs 154 = .ok (.iadd, 1) := by decide +kernel
theorem dX11_packs_155 : decode cX11_packs 155 = .ok (.istore 9, 2) := by decide +kernel
theorem dX11_packs_157 : decode cX11_packs 157 = .ok (.iload 8, 2) := by decide +kernel
theorem dX11_packs_159 : decode cX11_packs 159 = .ok (.ifCond .eq 13, 3) := by decide +kernel
theorem dX11_packs_162 : decode cX11_packs 162 = .ok (.aload_n 0, 1) := by decide +kernel
theorem dX11_packs_163 : decode cX11_packs 163 = .ok (.getfield 137, 3) := by decide +kernel
theorem dX11_packs_166 : decode cX11_packs 166 = .ok (.iload 7, 2) := by decide +kernel
theorem dX11_packs_168 : decode cX11_packs 168 = .ok (.iaload, 1) := by decide +kernel
theorem dX11_packs_169 : decode cX11_packs 169 = .ok (.goto 4, 3) := by decide +kernel
theorem dX11_packs_172 : decode cX11_packs 172 = .ok (.iload_n 3, 1) := by decide +kernel
theorem dX11_packs_173 : decode cX11_packs 173 = .ok (.aload_n 0, 1) := by decide +kernel
theorem dX11_packs_174 : decode cX11_packs 174 = .ok (.getfield 74, 3) := by decide +kernel
theorem dX11_packs_177 : decode cX11_packs 177 = .ok (.aload_n 0, 1) := by decide +kernel
theorem dX11_packs_178 : decode cX11_packs 178 = .ok (.getfield 131, 3) := by decide +kernel
theorem dX11_packs_181 : decode cX11_packs 181 = .ok (.iload 6, 2) := by decide +kernel
theorem dX11_packs_183 : decode cX11_packs 183 = .ok (.iaload, 1) := by decide +kernel
theorem dX11_packs_184 : decode cX11_packs 184 = .ok (.iaload, 1) := by decide +kernel
theorem dX11_packs_185 : decode cX11_packs 185 = .ok (.isub, 1) := by decide +kernel
theorem dX11_packs_186 : decode cX11_packs 186 = .ok (.istore 10, 2) := by decide +kernel
theorem dX11_packs_188 : decode cX11_packs 188 = .ok (.iload 9, 2) := by decide +kernel
theorem dX11_packs_190 : decode cX11_packs 190 = .ok (.aload_n 0, 1) := by decide +kernel
theorem dX11_packs_191 : decode cX11_packs 191 = .ok (.getfield 134, 3) := by decide +kernel
theorem dX11_packs_194 : decode cX11_packs 194 = .ok (.iload 5, 2) := by decide +kernel
theorem dX11_packs_196 : decode cX11_packs 196 = .ok (.iaload, 1) := by decide +kernel
theorem dX11_packs_197 : decode cX11_packs 197 = .ok (.if_icmp .lt 27, 3) := by decide +kernel
theorem dX11_packs_200 : decode cX11_packs 200 = .ok (.iload 9, 2) := by decide +kernel
theorem dX11_packs_202 : decode cX11_packs 202 = .ok (.aload_n 0, 1) := by decide +kernel
theorem dX11_packs_203 : decode cX11_packs 203 = .ok (.getfield 134, 3) := by decide +kernel
theorem dX11_packs_206 : decode cX11_packs 206 = .ok (.iload 5, 2) := by decide +kernel
theorem dX11_packs_208 : decode cX11_packs 208 = .ok (.iaload, 1) := by decide +kernel
theorem dX11_packs_209 : decode cX11_packs 209 = .ok (.if_icmp .ne 33, 3) := by decide +kernel
theorem dX11_packs_212 : decode cX11_packs 212 = .ok (.iload 10, 2) := by decide +kernel
theorem dX11_packs_214 : decode cX11_packs 214 = .ok (.aload_n 0, 1) := by decide +kernel
theorem dX11_packs_215 : decode cX11_packs 215 = .ok (.getfield 137, 3) := by decide +kernel
theorem dX11_packs_218 : decode cX11_packs 218 = .ok (.iload 5, 2) := by decide +kernel
theorem dX11_packs_220 : decode cX11_packs 220 = .ok (.iaload, 1) := by decide +kernel
theorem dX11_packs_221 : decode cX11_packs 221 = .ok (.if_icmp .le 21, 3) := by decide +kernel
theorem dX11_packs_224 : decode cX11_packs 224 = .ok (.aload_n 0, 1) := by decide +kernel
theorem dX11_packs_225 : decode cX11_packs 225 = .ok (.getfield 134, 3) := by decide +kernel
theorem dX11_packs_228 : decode cX11_packs 228 = .ok (.iload 5, 2) := by decide +kernel
theorem dX11_packs_230 : decode cX11_packs 230 = .ok (.iload 9, 2) := by decide +kernel
theorem dX11_packs_232 : decode cX11_packs 232 = .ok (.iastore, 1) := by decide +kernel
theorem dX11_packs_233 : decode cX11_packs 233 = .ok (.aload_n 0, 1) := by decide +kernel
theorem dX11_packs_234 : decode cX11_packs 234 = .ok (.getfield 137, 3) := by decide +kernel
theorem dX11_packs_237 : decode cX11_packs 237 = .ok (.iload 5, 2) := by decide +kernel
theorem dX11_packs_239 : decode cX11_packs 239 = .ok (.iload 10, 2) := by decide +kernel
theorem dX11_packs_241 : decode cX11_packs 241 = .ok (.iastore, 1) := by decide +kernel
theorem dX11_packs_242 : decode cX11_packs 242 = .ok (.iinc 6 1, 3) := by decide +kernel
theorem dX11_packs_245 : decode cX11_packs 245 = .ok (.goto (-173), 3) := by decide +kernel
theorem dX11_packs_248 : decode cX11_packs 248 = .ok (.iinc 5 1, 3) := by decide +kernel
theorem dX11_packs_251 : decode cX11_packs 251 = .ok (.goto (-208), 3) := by decide +kernel
theorem dX11_packs_254 : decode cX11_packs 254 = .ok (.aload_n 0, 1) := by decide +kernel
theorem dX11_packs_255 : decode cX11_packs 255 = .ok (.getfield 134, 3) := by decide +kernel
theorem dX11_packs_258 : decode cX11_packs 258 = .ok (.iconst 2, 1) := by decide +kernel
theorem dX11_packs_259 : decode cX11_packs 259 = .ok (.iload 4, 2) := by decide +kernel
theorem dX11_packs_261 : decode cX11_packs 261 = .ok (.imul, 1) := by decide +kernel
theorem dX11_packs_262 : decode cX11_packs 262 = .ok (.iconst 1, 1) := by decide +kernel
theorem dX11_packs_263 : decode cX11_packs 263 = .ok (.isub, 1) := by decide +kernel
theorem dX11_packs_264 : decode cX11_packs 264 = .ok (.iaload, 1) := by decide +kernel
theorem dX11_packs_265 : decode cX11_packs 265 = .ok (.iload_n 2, 1) := by decide +kernel
theorem dX11_packs_266 : decode cX11_packs 266 = .ok (.if_icmp .le 5, 3) := by decide +kernel
theorem dX11_packs_269 : decode cX11_packs 269 = .ok (.iconst 0, 1) := by decide +kernel
theorem dX11_packs_270 : decode cX11_packs 270 = .ok (.ireturn, 1) := by decide +kernel
theorem dX11_packs_271 : decode cX11_packs 271 = .ok (.aload_n 0, 1) := by decide +kernel
theorem dX11_packs_272 : decode cX11_packs 272 = .ok (.dup, 1) := by decide +kernel
theorem dX11_packs_273 : decode cX11_packs 273 = .ok (.getfield 354, 3) := by decide +kernel
theorem dX11_packs_276 : decode cX11_packs 276 = .ok (.iconst 1, 1) := by decide +kernel
theorem dX11_packs_277 : decode cX11_packs 277 = .ok (.iadd, 1) := by decide +kernel
theorem dX11_packs_278 : decode cX11_packs 278 = .ok (.putfield 354, 3) := by decide +kernel
theorem dX11_packs_281 : decode cX11_packs 281 = .ok (.iconst 1, 1) := by decide +kernel
theorem dX11_packs_282 : decode cX11_packs 282 = .ok (.ireturn, 1) := by decide +kernel
theorem dX11_issue_0 : decode cX11_issue 0 = .ok (.aload_n 0, 1) := by decide +kernel
theorem dX11_issue_1 : decode cX11_issue 1 = .ok (.iconst 0, 1) := by decide +kernel
theorem dX11_issue_2 : decode cX11_issue 2 = .ok (.putfield 158, 3) := by decide +kernel
theorem dX11_issue_5 : decode cX11_issue 5 = .ok (.iload_n 1, 1) := by decide +kernel
theorem dX11_issue_6 : decode cX11_issue 6 = .ok (.invokestatic 176, 3) := by decide +kernel
theorem dX11_issue_9 : decode cX11_issue 9 = .ok (.ifCond .eq 45, 3) := by decide +kernel
theorem dX11_issue_12 : decode cX11_issue 12 = .ok (.iload_n 1, 1) := by decide +kernel
theorem dX11_issue_13 : decode cX11_issue 13 = .ok (.aload_n 0, 1) := by decide +kernel
theorem dX11_issue_14 : decode cX11_issue 14 = .ok (.getfield 68, 3) := by decide +kernel
theorem dX11_issue_17 : decode cX11_issue 17 = .ok (.if_icmp .le 37, 3) := by decide +kernel
theorem dX11_issue_20 : decode cX11_issue 20 = .ok (.iload_n 2, 1) := by decide +kernel
theorem dX11_issue_21 : decode cX11_issue 21 = .ok (.iload_n 1, 1) := by decide +kernel
theorem dX11_issue_22 : decode cX11_issue 22 = .ok (.if_icmp .le 32, 3) := by decide +kernel
theorem dX11_issue_25 : decode cX11_issue 25 = .ok (.iload_n 2, 1) := by decide +kernel
theorem dX11_issue_26 : decode cX11_issue 26 = .ok (.sipush 10000, 3) := by decide +kernel
theorem dX11_issue_29 : decode cX11_issue 29 = .ok (.if_icmp .gt 25, 3) := by decide +kernel
theorem dX11_issue_32 : decode cX11_issue 32 = .ok (.iload_n 3, 1) := by decide +kernel
theorem dX11_issue_33 : decode cX11_issue 33 = .ok (.iconst 1, 1) := by decide +kernel
theorem dX11_issue_34 : decode cX11_issue 34 = .ok (.bipush 8, 2) := by decide +kernel
theorem dX11_issue_36 : decode cX11_issue 36 = .ok (.invokestatic 203, 3) := by decide +kernel
theorem dX11_issue_39 : decode cX11_issue 39 = .ok (.ifCond .eq 15, 3) := by decide +kernel
theorem dX11_issue_42 : decode cX11_issue 42 = .ok (.iload 4, 2) := by decide +kernel
theorem dX11_issue_44 : decode cX11_issue 44 = .ok (.bipush 10, 2) := by decide +kernel
theorem dX11_issue_46 : decode cX11_issue 46 = .ok (.bipush 60, 2) := by decide +kernel
theorem dX11_issue_48 : decode cX11_issue 48 = .ok (.invokestatic 203, 3) := by decide +kernel
theorem dX11_issue_51 : decode cX11_issue 51 = .ok (.ifCond .ne 9, 3) := by decide +kernel
theorem dX11_issue_54 : decode cX11_issue 54 = .ok (.aload_n 0, 1) := by decide +kernel
theorem dX11_issue_55 : decode cX11_issue 55 = .ok (.iconst 2, 1) := by decide +kernel
theorem dX11_issue_56 : decode cX11_issue 56 = .ok (.invokevirtual 194, 3) := by decide +kernel
theorem dX11_issue_59 : decode cX11_issue 59 = .ok (.ireturn, 1) := by decide +kernel
theorem dX11_issue_60 : decode cX11_issue 60 = .ok (.aload_n 0, 1) := by decide +kernel
theorem dX11_issue_61 : decode cX11_issue 61 = .ok (.getfield 357, 3) := by decide +kernel
theorem dX11_issue_64 : decode cX11_issue 64 = .ok (.bipush 40, 2) := by decide +kernel
theorem dX11_issue_66 : decode cX11_issue 66 = .ok (.if_icmp .ne 9, 3) := by decide +kernel
theorem dX11_issue_69 : decode cX11_issue 69 = .ok (.aload_n 0, 1) := by decide +kernel
theorem dX11_issue_70 : decode cX11_issue 70 = .ok (.iconst 3, 1) := by decide +kernel
theorem dX11_issue_71 : decode cX11_issue 71 = .ok (.invokevirtual 194, 3) := by decide +kernel
theorem dX11_issue_74 : decode cX11_issue 74 = .ok (.ireturn, 1) := by decide +kernel
theorem dX11_issue_75 : decode cX11_issue 75 = .ok (.aload_n 0, 1) := by decide +kernel
theorem dX11_issue_76 : decode cX11_issue 76 = .ok (.iconst 0, 1) := by decide +kernel
theorem dX11_issue_77 : decode cX11_issue 77 = .ok (.putfield 354, 3) := by decide +kernel
theorem dX11_issue_80 : decode cX11_issue 80 = .ok (.aload_n 0, 1) := by decide +kernel
theorem dX11_issue_81 : decode cX11_issue 81 = .ok (.getfield 134, 3) := by decide +kernel
theorem dX11_issue_84 : decode cX11_issue 84 = .ok (.iconst 0, 1) := by decide +kernel
theorem dX11_issue_85 : decode cX11_issue 85 = .ok (.iconst 0, 1) := by decide +kernel
theorem dX11_issue_86 : decode cX11_issue 86 = .ok (.iastore, 1) := by decide +kernel
theorem dX11_issue_87 : decode cX11_issue 87 = .ok (.aload_n 0, 1) := by decide +kernel
theorem dX11_issue_88 : decode cX11_issue 88 = .ok (.getfield 137, 3) := by decide +kernel
theorem dX11_issue_91 : decode cX11_issue 91 = .ok (.iconst 0, 1) := by decide +kernel
theorem dX11_issue_92 : decode cX11_issue 92 = .ok (.iconst 0, 1) := by decide +kernel
theorem dX11_issue_93 : decode cX11_issue 93 = .ok (.iastore, 1) := by decide +kernel
theorem dX11_issue_94 : decode cX11_issue 94 = .ok (.bipush 60, 2) := by decide +kernel
theorem dX11_issue_96 : decode cX11_issue 96 = .ok (.newarray .boolean, 2) := by decide +kernel
theorem dX11_issue_98 : decode cX11_issue 98 = .ok (.astore 5, 2) := by decide +kernel
theorem dX11_issue_100 : decode cX11_issue 100 = .ok (.iconst 0, 1) := by decide +kernel
theorem dX11_issue_101 : decode cX11_issue 101 = .ok (.istore 6, 2) := by decide +kernel
theorem dX11_issue_103 : decode cX11_issue 103 = .ok (.iload 6, 2) := by decide +kernel
theorem dX11_issue_105 : decode cX11_issue 105 = .ok (.aload_n 0, 1) := by decide +kernel
theorem dX11_issue_106 : decode cX11_issue 106 = .ok (.getfield 173, 3) := by decide +kernel
theorem dX11_issue_109 : decode cX11_issue 109 = .ok (.if_icmp .ge 76, 3) := by decide +kernel
theorem dX11_issue_112 : decode cX11_issue 112 = .ok (.aload 5, 2) := by decide +kernel
theorem dX11_issue_114 : decode cX11_issue 114 = .ok (.iload 6, 2) := by decide +kernel
theorem dX11_issue_116 : decode cX11_issue 116 = .ok (.aload_n 0, 1) := by decide +kernel
theorem dX11_issue_117 : decode cX11_issue 117 = .ok (.getfield 80, 3) := by decide +kernel
theorem dX11_issue_120 : decode cX11_issue 120 = .ok (.iload 6, 2) := by decide +kernel
theorem dX11_issue_122 : decode cX11_issue 122 = .ok (.iaload, 1) := by decide +kernel
theorem dX11_issue_123 : decode cX11_issue 123 = .ok (.iconst (-1), 1) := by decide +kernel
theorem dX11_issue_124 : decode cX11_issue 124 = .ok (.if_icmp .eq 7, 3) := by decide +kernel
theorem dX11_issue_127 : decode cX11_issue 127 = .ok (.iconst 1, 1) := by decide +kernel
theorem dX11_issue_128 : decode cX11_issue 128 = .ok (.goto 4, 3) := by decide +kernel
theorem dX11_issue_131 : decode cX11_issue 131 = .ok (.iconst 0, 1) := by decide +kernel
theorem dX11_issue_132 : decode cX11_issue 132 = .ok (.bastore, 1) := by decide +kernel
theorem dX11_issue_133 : decode cX11_issue 133 = .ok (.aload 5, 2) := by decide +kernel
theorem dX11_issue_135 : decode cX11_issue 135 = .ok (.iload 6, 2) := by decide +kernel
theorem dX11_issue_137 : decode cX11_issue 137 = .ok (.baload, 1) := by decide +kernel
theorem dX11_issue_138 : decode cX11_issue 138 = .ok (.ifCond .ne 41, 3) := by decide +kernel
theorem dX11_issue_141 : decode cX11_issue 141 = .ok (.aload_n 0, 1) := by decide +kernel
theorem dX11_issue_142 : decode cX11_issue 142 = .ok (.getfield 77, 3) := by decide +kernel
theorem dX11_issue_145 : decode cX11_issue 145 = .ok (.iload 6, 2) := by decide +kernel
theorem dX11_issue_147 : decode cX11_issue 147 = .ok (.iaload, 1) := by decide +kernel
theorem dX11_issue_148 : decode cX11_issue 148 = .ok (.iload_n 2, 1) := by decide +kernel
theorem dX11_issue_149 : decode cX11_issue 149 = .ok (.if_icmp .lt 6, 3) := by decide +kernel
theorem dX11_issue_152 : decode cX11_issue 152 = .ok (.goto 27, 3) := by decide +kernel
theorem dX11_issue_155 : decode cX11_issue 155 = .ok (.aload 5, 2) := by decide +kernel
theorem dX11_issue_157 : decode cX11_issue 157 = .ok (.iload 6, 2) := by decide +kernel
theorem dX11_issue_159 : decode cX11_issue 159 = .ok (.iconst 1, 1) := by decide +kernel
theorem dX11_issue_160 : decode cX11_issue 160 = .ok (.bastore, 1) := by decide +kernel
theorem dX11_issue_161 : decode cX11_issue 161 = .ok (.aload_n 0, 1) := by decide +kernel
theorem dX11_issue_162 : decode cX11_issue 162 = .ok (.iload 6, 2) := by decide +kernel
theorem dX11_issue_164 : decode cX11_issue 164 = .ok (.iload_n 3, 1) := by decide +kernel
theorem dX11_issue_165 : decode cX11_issue 165 = .ok (.iload 4, 2) := by decide +kernel
theorem dX11_issue_167 : decode cX11_issue 167 = .ok (.invokevirtual 360, 3) := by decide +kernel
theorem dX11_issue_170 : decode cX11_issue 170 = .ok (.ifCond .ne 9, 3) := by decide +kernel
theorem dX11_issue_173 : decode cX11_issue 173 = .ok (.aload_n 0, 1) := by decide +kernel
theorem dX11_issue_174 : decode cX11_issue 174 = .ok (.iconst 5, 1) := by decide +kernel
theorem dX11_issue_175 : decode cX11_issue 175 = .ok (.invokevirtual 194, 3) := by decide +kernel
theorem dX11_issue_178 : decode cX11_issue 178 = .ok (.ireturn, 1) := by decide +kernel
theorem dX11_issue_179 : decode cX11_issue 179 = .ok (.iinc 6 1, 3) := by decide +kernel
theorem dX11_issue_182 : decode cX11_issue 182 = .ok (.goto (-79), 3) := by decide +kernel
theorem dX11_issue_185 : decode cX11_issue 185 = .ok (.iconst 1, 1) := by decide +kernel
theorem dX11_issue_186 : decode cX11_issue 186 = .ok (.istore 6, 2) := by decide +kernel
theorem dX11_issue_188 : decode cX11_issue 188 = .ok (.iload 6, 2) := by decide +kernel
theorem dX11_issue_190 : decode cX11_issue 190 = .ok (.ifCond .eq 100, 3) := by decide +kernel
theorem dX11_issue_193 : decode cX11_issue 193 = .ok (.iconst (-1), 1) := by decide +kernel
theorem dX11_issue_194 : decode cX11_issue 194 = .ok (.istore 7, 2) := by decide +kernel
theorem dX11_issue_196 : decode cX11_issue 196 = .ok (.iconst 0, 1) := by decide +kernel
theorem dX11_issue_197 : decode cX11_issue 197 = .ok (.istore 8, 2) := by decide +kernel
theorem dX11_issue_199 : decode cX11_issue 199 = .ok (.iload 8, 2) := by decide +kernel
theorem dX11_issue_201 : decode cX11_issue 201 = .ok (.aload_n 0, 1) := by decide +kernel
theorem dX11_issue_202 : decode cX11_issue 202 = .ok (.getfield 173, 3) := by decide +kernel
theorem dX11_issue_205 : decode cX11_issue 205 = .ok (.if_icmp .ge 44, 3) := by decide +kernel
theorem dX11_issue_208 : decode cX11_issue 208 = .ok (.aload 5, 2) := by decide +kernel
theorem dX11_issue_210 : decode cX11_issue 210 = .ok (.iload 8, 2) := by decide +kernel
theorem dX11_issue_212 : decode cX11_issue 212 = .ok (.baload, 1) := by decide +kernel
theorem dX11_issue_213 : decode cX11_issue 213 = .ok (.ifCond .ne 30, 3) := by decide +kernel
theorem dX11_issue_216 : decode cX11_issue 216 = .ok (.iload 7, 2) := by decide +kernel
theorem dX11_issue_218 : decode cX11_issue 218 = .ok (.iconst (-1), 1) := by decide +kernel
theorem dX11_issue_219 : decode cX11_issue 219 = .ok (.if_icmp .eq 20, 3) := by decide +kernel
theorem dX11_issue_222 : decode cX11_issue 222 = .ok (.aload_n 0, 1) := by decide +kernel
theorem dX11_issue_223 : decode cX11_issue 223 = .ok (.getfield 77, 3) := by decide +kernel
theorem dX11_issue_226 : decode cX11_issue 226 = .ok (.iload 8, 2) := by decide +kernel
theorem dX11_issue_228 : decode cX11_issue 228 = .ok (.iaload, 1) := by decide +kernel
theorem dX11_issue_229 : decode cX11_issue 229 = .ok (.aload_n 0, 1) := by decide +kernel
theorem dX11_issue_230 : decode cX11_issue 230 = .ok (.getfield 77, 3) := by decide +kernel
theorem dX11_issue_233 : decode cX11_issue 233 = .ok (.iload 7, 2) := by decide +kernel
theorem dX11_issue_235 : decode cX11_issue 235 = .ok (.iaload, 1) := by decide +kernel
theorem dX11_issue_236 : decode cX11_issue 236 = .ok (.if_icmp .ge 7, 3) := by decide +kernel
theorem dX11_issue_239 : decode cX11_issue 239 = .ok (.iload 8, 2) := by decide +kernel
theorem dX11_issue_241 : decode cX11_issue 241 = .ok (.istore 7, 2) := by decide +kernel
theorem dX11_issue_243 : decode cX11_issue 243 = .ok (.iinc 8 1, 3) := by decide +kernel
theorem dX11_issue_246 : decode cX11_issue 246 = .ok (.goto (-47), 3) := by decide +kernel
theorem dX11_issue_249 : decode cX11_issue 249 = .ok (.iload 7, 2) := by decide +kernel
theorem dX11_issue_251 : decode cX11_issue 251 = .ok (.iconst (-1), 1) := by decide +kernel
theorem dX11_issue_252 : decode cX11_issue 252 = .ok (.if_icmp .eq 7, 3) := by decide +kernel
theorem dX11_issue_255 : decode cX11_issue 255 = .ok (.iconst 1, 1) := by decide +kernel
theorem dX11_issue_256 : decode cX11_issue 256 = .ok (.goto 4, 3) := by decide +kernel
theorem dX11_issue_259 : decode cX11_issue 259 = .ok (.iconst 0, 1) := by decide +kernel
theorem dX11_issue_260 : decode cX11_issue 260 = .ok (.istore 6, 2) := by decide +kernel
theorem dX11_issue_262 : decode cX11_issue 262 = .ok (.iload 6, 2) := by decide +kernel
theorem dX11_issue_264 : decode cX11_issue 264 = .ok (.ifCond .ne 6, 3) := by decide +kernel
theorem dX11_issue_267 : decode cX11_issue 267 = .ok (.goto (-79), 3) := by decide +kernel
theorem dX11_issue_270 : decode cX11_issue 270 = .ok (.aload 5, 2) := by decide +kernel
theorem dX11_issue_272 : decode cX11_issue 272 = .ok (.iload 7, 2) := by decide +kernel
theorem dX11_issue_274 : decode cX11_issue 274 = .ok (.iconst 1, 1) := by decide +kernel
theorem dX11_issue_275 : decode cX11_issue 275 = .ok (.bastore, 1) := by decide +kernel
theorem dX11_issue_276 : decode cX11_issue 276 = .ok (.aload_n 0, 1) := by decide +kernel
theorem dX11_issue_277 : decode cX11_issue 277 = .ok (.iload 7, 2) := by decide +kernel
theorem dX11_issue_279 : decode cX11_issue 279 = .ok (.iload_n 3, 1) := by decide +kernel
theorem dX11_issue_280 : decode cX11_issue 280 = .ok (.iload 4, 2) := by decide +kernel
theorem dX11_issue_282 : decode cX11_issue 282 = .ok (.invokevirtual 360, 3) := by decide +kernel
theorem dX11_issue_285 : decode cX11_issue 285 = .ok (.istore 8, 2) := by decide +kernel
theorem dX11_issue_287 : decode cX11_issue 287 = .ok (.goto (-99), 3) := by decide +kernel
theorem dX11_issue_290 : decode cX11_issue 290 = .ok (.aload_n 0, 1) := by decide +kernel
theorem dX11_issue_291 : decode cX11_issue 291 = .ok (.getfield 357, 3) := by decide +kernel
theorem dX11_issue_294 : decode cX11_issue 294 = .ok (.istore 7, 2) := by decide +kernel
theorem dX11_issue_296 : decode cX11_issue 296 = .ok (.aload_n 0, 1) := by decide +kernel
theorem dX11_issue_297 : decode cX11_issue 297 = .ok (.dup, 1) := by decide +kernel
theorem dX11_issue_298 : decode cX11_issue 298 = .ok (.getfield 357, 3) := by decide +kernel
theorem dX11_issue_301 : decode cX11_issue 301 = .ok (.iconst 1, 1) := by decide +kernel
theorem dX11_issue_302 : decode cX11_issue 302 = .ok (.iadd, 1) := by decide +kernel
theorem dX11_issue_303 : decode cX11_issue 303 = .ok (.putfield 357, 3) := by decide +kernel
theorem dX11_issue_306 : decode cX11_issue 306 = .ok (.aload_n 0, 1) := by decide +kernel
theorem dX11_issue_307 : decode cX11_issue 307 = .ok (.iload_n 1, 1) := by decide +kernel
theorem dX11_issue_308 : decode cX11_issue 308 = .ok (.putfield 68, 3) := by decide +kernel
theorem dX11_issue_311 : decode cX11_issue 311 = .ok (.aload_n 0, 1) := by decide +kernel
theorem dX11_issue_312 : decode cX11_issue 312 = .ok (.getfield 113, 3) := by decide +kernel
theorem dX11_issue_315 : decode cX11_issue 315 = .ok (.iload 7, 2) := by decide +kernel
theorem dX11_issue_317 : decode cX11_issue 317 = .ok (.iload_n 1, 1) := by decide +kernel
theorem dX11_issue_318 : decode cX11_issue 318 = .ok (.iastore, 1) := by decide +kernel
theorem dX11_issue_319 : decode cX11_issue 319 = .ok (.aload_n 0, 1) := by decide +kernel
theorem dX11_issue_320 : decode cX11_issue 320 = .ok (.getfield 116, 3) := by decide +kernel
theorem dX11_issue_323 : decode cX11_issue 323 = .ok (.iload 7, 2) := by decide +kernel
theorem dX11_issue_325 : decode cX11_issue 325 = .ok (.aload_n 0, 1) := by decide +kernel
theorem dX11_issue_326 : decode cX11_issue 326 = .ok (.getfield 354, 3) := by decide +kernel
theorem dX11_issue_329 : decode cX11_issue 329 = .ok (.iastore, 1) := by decide +kernel
theorem dX11_issue_330 : decode cX11_issue 330 = .ok (.aload_n 0, 1) := by decide +kernel
theorem dX11_issue_331 : decode cX11_issue 331 = .ok (.getfield 119, 3) := by decide +kernel
theorem dX11_issue_334 : decode cX11_issue 334 = .ok (.iload 7, 2) := by decide +kernel
theorem dX11_issue_336 : decode cX11_issue 336 = .ok (.aload_n 0, 1) := by decide +kernel
theorem dX11_issue_337 : decode cX11_issue 337 = .ok (.getfield 134, 3) := by decide +kernel
theorem dX11_issue_340 : decode cX11_issue 340 = .ok (.iconst 1, 1) := by decide +kernel
theorem dX11_issue_341 : decode cX11_issue 341 = .ok (.aload_n 0, 1) := by decide +kernel
theorem dX11_issue_342 : decode cX11_issue 342 = .ok (.getfield 354, 3) := by decide +kernel
theorem dX11_issue_345 : decode cX11_issue 345 = .ok (.ishl, 1) := by decide +kernel
theorem dX11_issue_346 : decode cX11_issue 346 = .ok (.iconst 1, 1) := by decide +kernel
theorem dX11_issue_347 : decode cX11_issue 347 = .ok (.isub, 1) := by decide +kernel
theorem dX11_issue_348 : decode cX11_issue 348 = .ok (.iaload, 1) := by decide +kernel
theorem dX11_issue_349 : decode cX11_issue 349 = .ok (.iastore, 1) := by decide +kernel
theorem dX11_issue_350 : decode cX11_issue 350 = .ok (.aload_n 0, 1) := by decide +kernel
theorem dX11_issue_351 : decode cX11_issue 351 = .ok (.getfield 122, 3) := by decide +kernel
theorem dX11_issue_354 : decode cX11_issue 354 = .ok (.iload 7, 2) := by decide +kernel
theorem dX11_issue_356 : decode cX11_issue 356 = .ok (.iconst 0, 1) := by decide +kernel
theorem dX11_issue_357 : decode cX11_issue 357 = .ok (.iastore, 1) := by decide +kernel
theorem dX11_issue_358 : decode cX11_issue 358 = .ok (.iconst 0, 1) := by decide +kernel
theorem dX11_issue_359 : decode cX11_issue 359 = .ok (.istore 8, 2) := by decide +kernel
theorem dX11_issue_361 : decode cX11_issue 361 = .ok (.iload 8, 2) := by decide +kernel
theorem dX11_issue_363 : decode cX11_issue 363 = .ok (.aload_n 0, 1) := by decide +kernel
theorem dX11_issue_364 : decode cX11_issue 364 = .ok (.getfield 354, 3) := by decide +kernel
theorem dX11_issue_367 : decode cX11_issue 367 = .ok (.if_icmp .ge 59, 3) := by decide +kernel
theorem dX11_issue_370 : decode cX11_issue 370 = .ok (.aload_n 0, 1) := by decide +kernel
theorem dX11_issue_371 : decode cX11_issue 371 = .ok (.getfield 131, 3) := by decide +kernel
theorem dX11_issue_374 : decode cX11_issue 374 = .ok (.iload 8, 2) := by decide +kernel
theorem dX11_issue_376 : decode cX11_issue 376 = .ok (.iaload, 1) := by decide +kernel
theorem dX11_issue_377 : decode cX11_issue 377 = .ok (.istore 9, 2) := by decide +kernel
theorem dX11_issue_379 : decode cX11_issue 379 = .ok (.aload_n 0, 1) := by decide +kernel
theorem dX11_issue_380 : decode cX11_issue 380 = .ok (.iload 9, 2) := by decide +kernel
theorem dX11_issue_382 : decode cX11_issue 382 = .ok (.invokevirtual 333, 3) := by decide +kernel
theorem dX11_issue_385 : decode cX11_issue 385 = .ok (.aload_n 0, 1) := by decide +kernel
theorem dX11_issue_386 : decode cX11_issue 386 = .ok (.getfield 80, 3) := by decide +kernel
theorem dX11_issue_389 : decode cX11_issue 389 = .ok (.iload 9, 2) := by decide +kernel
theorem dX11_issue_391 : decode cX11_issue 391 = .ok (.iload 7, 2) := by decide +kernel
theorem dX11_issue_393 : decode cX11_issue 393 = .ok (.iastore, 1) := by decide +kernel
theorem dX11_issue_394 : decode cX11_issue 394 = .ok (.aload_n 0, 1) := by decide +kernel
theorem dX11_issue_395 : decode cX11_issue 395 = .ok (.getfield 122, 3) := by decide +kernel
theorem dX11_issue_398 : decode cX11_issue 398 = .ok (.iload 7, 2) := by decide +kernel
theorem dX11_issue_400 : decode cX11_issue 400 = .ok (.dup2, 1) := by decide +kernel
theorem dX11_issue_401 : decode cX11_issue 401 = .ok (.iaload, 1) := by decide +kernel
theorem dX11_issue_402 : decode cX11_issue 402 = .ok (.aload_n 0, 1) := by decide +kernel
theorem dX11_issue_403 : decode cX11_issue 403 = .ok (.getfield 77, 3) := by decide +kernel
theorem dX11_issue_406 : decode cX11_issue 406 = .ok (.iload 9, 2) := by decide +kernel
theorem dX11_issue_408 : decode cX11_issue 408 = .ok (.iaload, 1) := by decide +kernel
theorem dX11_issue_409 : decode cX11_issue 409 = .ok (.iload_n 1, 1) := by decide +kernel
theorem dX11_issue_410 : decode cX11_issue 410 = .ok (.if_icmp .ge 7, 3) := by decide +kernel
theorem dX11_issue_413 : decode cX11_issue 413 = .ok (.iconst 1, 1) := by decide +kernel
theorem dX11_issue_414 : decode cX11_issue 414 = .ok (.goto 4, 3) := by decide +kernel
theorem dX11_issue_417 : decode cX11_issue 417 = .ok (.iconst 0, 1) := by decide +kernel
theorem dX11_issue_418 : decode cX11_issue 418 = .ok (.iadd, 1) := by decide +kernel
theorem dX11_issue_419 : decode cX11_issue 419 = .ok (.iastore, 1) := by decide +kernel
theorem dX11_issue_420 : decode cX11_issue 420 = .ok (.iinc 8 1, 3) := by decide +kernel
theorem dX11_issue_423 : decode cX11_issue 423 = .ok (.goto (-62), 3) := by decide +kernel
theorem dX11_issue_426 : decode cX11_issue 426 = .ok (.iconst 0, 1) := by decide +kernel
theorem dX11_issue_427 : decode cX11_issue 427 = .ok (.istore 8, 2) := by decide +kernel
theorem dX11_issue_429 : decode cX11_issue 429 = .ok (.iconst 0, 1) := by decide +kernel
theorem dX11_issue_430 : decode cX11_issue 430 = .ok (.istore 9, 2) := by decide +kernel
theorem dX11_issue_432 : decode cX11_issue 432 = .ok (.iload 9, 2) := by decide +kernel
theorem dX11_issue_434 : decode cX11_issue 434 = .ok (.aload_n 0, 1) := by decide +kernel
theorem dX11_issue_435 : decode cX11_issue 435 = .ok (.getfield 173, 3) := by decide +kernel
theorem dX11_issue_438 : decode cX11_issue 438 = .ok (.if_icmp .ge 42, 3) := by decide +kernel
theorem dX11_issue_441 : decode cX11_issue 441 = .ok (.aload_n 0, 1) := by decide +kernel
theorem dX11_issue_442 : decode cX11_issue 442 = .ok (.getfield 80, 3) := by decide +kernel
theorem dX11_issue_445 : decode cX11_issue 445 = .ok (.iload 9, 2) := by decide +kernel
theorem dX11_issue_447 : decode cX11_issue 447 = .ok (.iaload, 1) := by decide +kernel
theorem dX11_issue_448 : decode cX11_issue 448 = .ok (.iload 7, 2) := by decide +kernel
theorem dX11_issue_450 : decode cX11_issue 450 = .ok (.if_icmp .eq 6, 3) := by decide +kernel
theorem dX11_issue_453 : decode cX11_issue 453 = .ok (.goto 21, 3) := by decide +kernel
theorem dX11_issue_456 : decode cX11_issue 456 = .ok (.aload_n 0, 1) := by decide +kernel
theorem dX11_issue_457 : decode cX11_issue 457 = .ok (.getfield 128, 3) := by decide +kernel
theorem dX11_issue_460 : decode cX11_issue 460 = .ok (.bipush 12, 2) := by decide +kernel
theorem dX11_issue_462 : decode cX11_issue 462 = .ok (.iload 7, 2) := by decide +kernel
theorem dX11_issue_464 : decode cX11_issue 464 = .ok (.imul, 1) := by decide +kernel
theorem dX11_issue_465 : decode cX11_issue 465 = .ok (.iload 8, 2) := by decide +kernel
theorem dX11_issue_467 : decode cX11_issue 467 = .ok (.iadd, 1) := by decide +kernel
theorem dX11_issue_468 : decode cX11_issue 468 = .ok (.iload 9, 2) := by decide +kernel
theorem dX11_issue_470 : decode cX11_issue 470 = .ok (.iastore, 1) := by decide +kernel
theorem dX11_issue_471 : decode cX11_issue 471 = .ok (.iinc 8 1, 3) := by decide +kernel
theorem dX11_issue_474 : decode cX11_issue 474 = .ok (.iinc 9 1, 3) := by decide +kernel
theorem dX11_issue_477 : decode cX11_issue 477 = .ok (.goto (-45), 3) := by decide +kernel
theorem dX11_issue_480 : decode cX11_issue 480 = .ok (.aload_n 0, 1) := by decide +kernel
theorem dX11_issue_481 : decode cX11_issue 481 = .ok (.getfield 125, 3) := by decide +kernel
theorem dX11_issue_484 : decode cX11_issue 484 = .ok (.iload 7, 2) := by decide +kernel
theorem dX11_issue_486 : decode cX11_issue 486 = .ok (.aload_n 0, 1) := by decide +kernel
theorem dX11_issue_487 : decode cX11_issue 487 = .ok (.invokevirtual 362, 3) := by decide +kernel
theorem dX11_issue_490 : decode cX11_issue 490 = .ok (.iastore, 1) := by decide +kernel
theorem dX11_issue_491 : decode cX11_issue 491 = .ok (.aload_n 0, 1) := by decide +kernel
theorem dX11_issue_492 : decode cX11_issue 492 = .ok (.iconst 0, 1) := by decide +kernel
theorem dX11_issue_493 : decode cX11_issue 493 = .ok (.putfield 164, 3) := by decide +kernel
theorem dX11_issue_496 : decode cX11_issue 496 = .ok (.aload_n 0, 1) := by decide +kernel
theorem dX11_issue_497 : decode cX11_issue 497 = .ok (.iload 7, 2) := by decide +kernel
theorem dX11_issue_499 : decode cX11_issue 499 = .ok (.invokevirtual 190, 3) := by decide +kernel
theorem dX11_issue_502 : decode cX11_issue 502 = .ok (.ireturn, 1) := by decide +kernel
theorem dX11_waiting_0 : decode cX11_waiting 0 = .ok (.iconst 0, 1) := by decide +kernel
theorem dX11_waiting_1 : decode cX11_waiting 1 = .ok (.istore_n 1, 1) := by decide +kernel
theorem dX11_waiting_2 : decode cX11_waiting 2 = .ok (.iconst 0, 1) := by decide +kernel
theorem dX11_waiting_3 : decode cX11_waiting 3 = .ok (.istore_n 2, 1) := by decide +kernel
theorem dX11_waiting_4 : decode cX11_waiting 4 = .ok (.iload_n 2, 1) := by decide +kernel
theorem dX11_waiting_5 : decode cX11_waiting 5 = .ok (.aload_n 0, 1) := by decide +kernel
theorem dX11_waiting_6 : decode cX11_waiting 6 = .ok (.getfield 173, 3) := by decide +kernel
theorem dX11_waiting_9 : decode cX11_waiting 9 = .ok (.if_icmp .ge 27, 3) := by decide +kernel
theorem dX11_waiting_12 : decode cX11_waiting 12 = .ok (.iload_n 1, 1) := by decide +kernel
theorem dX11_waiting_13 : decode cX11_waiting 13 = .ok (.aload_n 0, 1) := by decide +kernel
theorem dX11_waiting_14 : decode cX11_waiting 14 = .ok (.getfield 80, 3) := by decide +kernel
theorem dX11_waiting_17 : decode cX11_waiting 17 = .ok (.iload_n 2, 1) := by decide +kernel
theorem dX11_waiting_18 : decode cX11_waiting 18 = .ok (.iaload, 1) := by decide +kernel
theorem dX11_waiting_19 : decode cX11_waiting 19 = .ok (.iconst (-1), 1) := by decide +kernel
theorem dX11_waiting_20 : decode cX11_waiting 20 = .ok (.if_icmp .ne 7, 3) := by decide +kernel
theorem dX11_waiting_23 : decode cX11_waiting 23 = .ok (.iconst 1, 1) := by decide +kernel
theorem dX11_waiting_24 : decode cX11_waiting 24 = .ok (.goto 4, 3) := by decide +kernel
theorem dX11_waiting_27 : decode cX11_waiting 27 = .ok (.iconst 0, 1) := by decide +kernel
theorem dX11_waiting_28 : decode cX11_waiting 28 = .ok (.iadd, 1) := by decide +kernel
theorem dX11_waiting_29 : decode cX11_waiting 29 = .ok (.istore_n 1, 1) := by decide +kernel
theorem dX11_waiting_30 : decode cX11_waiting 30 = .ok (.iinc 2 1, 3) := by decide +kernel
theorem dX11_waiting_33 : decode cX11_waiting 33 = .ok (.goto (-29), 3) := by decide +kernel
theorem dX11_waiting_36 : decode cX11_waiting 36 = .ok (.iload_n 1, 1) := by decide +kernel
theorem dX11_waiting_37 : decode cX11_waiting 37 = .ok (.ireturn, 1) := by decide +kernel
theorem dX11_isIssue_0 : decode cX11_isIssue 0 = .ok (.iload_n 1, 1) := by decide +kernel
theorem dX11_isIssue_1 : decode cX11_isIssue 1 = .ok (.ifCond .lt 15, 3) := by decide +kernel
theorem dX11_isIssue_4 : decode cX11_isIssue 4 = .ok (.iload_n 1, 1) := by decide +kernel
theorem dX11_isIssue_5 : decode cX11_isIssue 5 = .ok (.aload_n 0, 1) := by decide +kernel
theorem dX11_isIssue_6 : decode cX11_isIssue 6 = .ok (.getfield 357, 3) := by decide +kernel
theorem dX11_isIssue_9 : decode cX11_isIssue 9 = .ok (.if_icmp .ge 7, 3) := by decide +kernel
theorem dX11_isIssue_12 : decode cX11_isIssue 12 = .ok (.iconst 1, 1) := by decide +kernel
theorem dX11_isIssue_13 : decode cX11_isIssue 13 = .ok (.goto 4, 3) := by decide +kernel
theorem dX11_isIssue_16 : decode cX11_isIssue 16 = .ok (.iconst 0, 1) := by decide +kernel
theorem dX11_isIssue_17 : decode cX11_isIssue 17 = .ok (.ireturn, 1) := by decide +kernel
theorem dX11_issued_0 : decode cX11_issued 0 = .ok (.aload_n 0, 1) := by decide +kernel
theorem dX11_issued_1 : decode cX11_issued 1 = .ok (.iconst 0, 1) := by decide +kernel
theorem dX11_issued_2 : decode cX11_issued 2 = .ok (.putfield 158, 3) := by decide +kernel
theorem dX11_issued_5 : decode cX11_issued 5 = .ok (.aload_n 0, 1) := by decide +kernel
theorem dX11_issued_6 : decode cX11_issued 6 = .ok (.iload_n 1, 1) := by decide +kernel
theorem dX11_issued_7 : decode cX11_issued 7 = .ok (.invokevirtual 365, 3) := by decide +kernel
theorem dX11_issued_10 : decode cX11_issued 10 = .ok (.ifCond .ne 5, 3) := by decide +kernel
theorem dX11_issued_13 : decode cX11_issued 13 = .ok (.iconst (-1), 1) := by decide +kernel
theorem dX11_issued_14 : decode cX11_issued 14 = .ok (.ireturn, 1) := by decide +kernel
theorem dX11_issued_15 : decode cX11_issued 15 = .ok (.iload_n 2, 1) := by decide +kernel
theorem dX11_issued_16 : decode cX11_issued 16 = .ok (.tableswitch 71 0 4 #[36, 43, 50, 57, 64], 36) := by decide +kernel
theorem dX11_issued_52 : decode cX11_issued 52 = .ok (.aload_n 0, 1) := by decide +kernel
theorem dX11_issued_53 : decode cX11_issued 53 = .ok (.getfield 113, 3) := by decide +kernel
theorem dX11_issued_56 : decode cX11_issued 56 = .ok (.iload_n 1, 1) := by decide +kernel
theorem dX11_issued_57 : decode cX11_issued 57 = .ok (.iaload, 1) := by decide +kernel
theorem dX11_issued_58 : decode cX11_issued 58 = .ok (.ireturn, 1) := by decide +kernel
theorem dX11_issued_59 : decode cX11_issued 59 = .ok (.aload_n 0, 1) := by decide +kernel
theorem dX11_issued_60 : decode cX11_issued 60 = .ok (.getfield 116, 3) := by decide +kernel
theorem dX11_issued_63 : decode cX11_issued 63 = .ok (.iload_n 1, 1) := by decide +kernel
theorem dX11_issued_64 : decode cX11_issued 64 = .ok (.iaload, 1) := by decide +kernel
theorem dX11_issued_65 : decode cX11_issued 65 = .ok (.ireturn, 1) := by decide +kernel
theorem dX11_issued_66 : decode cX11_issued 66 = .ok (.aload_n 0, 1) := by decide +kernel
theorem dX11_issued_67 : decode cX11_issued 67 = .ok (.getfield 119, 3) := by decide +kernel
theorem dX11_issued_70 : decode cX11_issued 70 = .ok (.iload_n 1, 1) := by decide +kernel
theorem dX11_issued_71 : decode cX11_issued 71 = .ok (.iaload, 1) := by decide +kernel
theorem dX11_issued_72 : decode cX11_issued 72 = .ok (.ireturn, 1) := by decide +kernel
theorem dX11_issued_73 : decode cX11_issued 73 = .ok (.aload_n 0, 1) := by decide +kernel
theorem dX11_issued_74 : decode cX11_issued 74 = .ok (.getfield 122, 3) := by decide +kernel
theorem dX11_issued_77 : decode cX11_issued 77 = .ok (.iload_n 1, 1) := by decide +kernel
theorem dX11_issued_78 : decode cX11_issued 78 = .ok (.iaload, 1) := by decide +kernel
theorem dX11_issued_79 : decode cX11_issued 79 = .ok (.ireturn, 1) := by decide +kernel
theorem dX11_issued_80 : decode cX11_issued 80 = .ok (.aload_n 0, 1) := by decide +kernel
theorem dX11_issued_81 : decode cX11_issued 81 = .ok (.getfield 125, 3) := by decide +kernel
theorem dX11_issued_84 : decode cX11_issued 84 = .ok (.iload_n 1, 1) := by decide +kernel
theorem dX11_issued_85 : decode cX11_issued 85 = .ok (.iaload, 1) := by decide +kernel
theorem dX11_issued_86 : decode cX11_issued 86 = .ok (.ireturn, 1) := by decide +kernel
theorem dX11_issued_87 : decode cX11_issued 87 = .ok (.iconst (-1), 1) := by decide +kernel
theorem dX11_issued_88 : decode cX11_issued 88 = .ok (.ireturn, 1) := by decide +kernel
theorem dX11_printed_0 : decode cX11_printed 0 = .ok (.aload_n 0, 1) := by decide +kernel
theorem dX11_printed_1 : decode cX11_printed 1 = .ok (.iconst 0, 1) := by decide +kernel
theorem dX11_printed_2 : decode cX11_printed 2 = .ok (.putfield 158, 3) := by decide +kernel
theorem dX11_printed_5 : decode cX11_printed 5 = .ok (.aload_n 0, 1) := by decide +kernel
theorem dX11_printed_6 : decode cX11_printed 6 = .ok (.iload_n 1, 1) := by decide +kernel
theorem dX11_printed_7 : decode cX11_printed 7 = .ok (.invokevirtual 365, 3) := by decide +kernel
theorem dX11_printed_10 : decode cX11_printed 10 = .ok (.ifCond .eq 31, 3) := by decide +kernel
theorem dX11_printed_13 : decode cX11_printed 13 = .ok (.iload_n 2, 1) := by decide +kernel
theorem dX11_printed_14 : decode cX11_printed 14 = .ok (.ifCond .lt 27, 3) := by decide +kernel
theorem dX11_printed_17 : decode cX11_printed 17 = .ok (.iload_n 2, 1) := by decide +kernel
theorem dX11_printed_18 : decode cX11_printed 18 = .ok (.aload_n 0, 1) := by decide +kernel
theorem dX11_printed_19 : decode cX11_printed 19 = .ok (.getfield 116, 3) := by decide +kernel
theorem dX11_printed_22 : decode cX11_printed 22 = .ok (.iload_n 1, 1) := by decide +kernel
theorem dX11_printed_23 : decode cX11_printed 23 = .ok (.iaload, 1) := by decide +kernel
theorem dX11_printed_24 : decode cX11_printed 24 = .ok (.if_icmp .ge 17, 3) := by decide +kernel
theorem dX11_printed_27 : decode cX11_printed 27 = .ok (.aload_n 0, 1) := by decide +kernel
theorem dX11_printed_28 : decode cX11_printed 28 = .ok (.getfield 128, 3) := by decide +kernel
theorem dX11_printed_31 : decode cX11_printed 31 = .ok (.bipush 12, 2) := by decide +kernel
theorem dX11_printed_33 : decode cX11_printed 33 = .ok (.iload_n 1, 1) := by decide +kernel
theorem dX11_printed_34 : decode cX11_printed 34 = .ok (.imul, 1) := by decide +kernel
theorem dX11_printed_35 : decode cX11_printed 35 = .ok (.iload_n 2, 1) := by decide +kernel
theorem dX11_printed_36 : decode cX11_printed 36 = .ok (.iadd, 1) := by decide +kernel
theorem dX11_printed_37 : decode cX11_printed 37 = .ok (.iaload, 1) := by decide +kernel
theorem dX11_printed_38 : decode cX11_printed 38 = .ok (.goto 4, 3) := by decide +kernel
theorem dX11_printed_41 : decode cX11_printed 41 = .ok (.iconst (-1), 1) := by decide +kernel
theorem dX11_printed_42 : decode cX11_printed 42 = .ok (.ireturn, 1) := by decide +kernel
theorem dX11_isKnown_0 : decode cX11_isKnown 0 = .ok (.aload_n 0, 1) := by decide +kernel
theorem dX11_isKnown_1 : decode cX11_isKnown 1 = .ok (.getfield 80, 3) := by decide +kernel
theorem dX11_isKnown_4 : decode cX11_isKnown 4 = .ok (.iload_n 1, 1) := by decide +kernel
theorem dX11_isKnown_5 : decode cX11_isKnown 5 = .ok (.iaload, 1) := by decide +kernel
theorem dX11_isKnown_6 : decode cX11_isKnown 6 = .ok (.iconst (-1), 1) := by decide +kernel
theorem dX11_isKnown_7 : decode cX11_isKnown 7 = .ok (.if_icmp .eq 22, 3) := by decide +kernel
theorem dX11_isKnown_10 : decode cX11_isKnown 10 = .ok (.aload_n 0, 1) := by decide +kernel
theorem dX11_isKnown_11 : decode cX11_isKnown 11 = .ok (.getfield 113, 3) := by decide +kernel
theorem dX11_isKnown_14 : decode cX11_isKnown 14 = .ok (.aload_n 0, 1) := by decide +kernel
theorem dX11_isKnown_15 : decode cX11_isKnown 15 = .ok (.getfield 80, 3) := by decide +kernel
theorem dX11_isKnown_18 : decode cX11_isKnown 18 = .ok (.iload_n 1, 1) := by decide +kernel
theorem dX11_isKnown_19 : decode cX11_isKnown 19 = .ok (.iaload, 1) := by decide +kernel
theorem dX11_isKnown_20 : decode cX11_isKnown 20 = .ok (.iaload, 1) := by decide +kernel
theorem dX11_isKnown_21 : decode cX11_isKnown 21 = .ok (.iload_n 2, 1) := by decide +kernel
theorem dX11_isKnown_22 : decode cX11_isKnown 22 = .ok (.if_icmp .gt 7, 3) := by decide +kernel
theorem dX11_isKnown_25 : decode cX11_isKnown 25 = .ok (.iconst 1, 1) := by decide +kernel
theorem dX11_isKnown_26 : decode cX11_isKnown 26 = .ok (.goto 4, 3) := by decide +kernel
theorem dX11_isKnown_29 : decode cX11_isKnown 29 = .ok (.iconst 0, 1) := by decide +kernel
theorem dX11_isKnown_30 : decode cX11_isKnown 30 = .ok (.ireturn, 1) := by decide +kernel
theorem dX11_voids_0 : decode cX11_voids 0 = .ok (.iconst 0, 1) := by decide +kernel
theorem dX11_voids_1 : decode cX11_voids 1 = .ok (.istore_n 2, 1) := by decide +kernel
theorem dX11_voids_2 : decode cX11_voids 2 = .ok (.iload_n 2, 1) := by decide +kernel
theorem dX11_voids_3 : decode cX11_voids 3 = .ok (.aload_n 0, 1) := by decide +kernel
theorem dX11_voids_4 : decode cX11_voids 4 = .ok (.getfield 173, 3) := by decide +kernel
theorem dX11_voids_7 : decode cX11_voids 7 = .ok (.if_icmp .ge 16, 3) := by decide +kernel
theorem dX11_voids_10 : decode cX11_voids 10 = .ok (.aload_n 0, 1) := by decide +kernel
theorem dX11_voids_11 : decode cX11_voids 11 = .ok (.getfield 140, 3) := by decide +kernel
theorem dX11_voids_14 : decode cX11_voids 14 = .ok (.iload_n 2, 1) := by decide +kernel
theorem dX11_voids_15 : decode cX11_voids 15 = .ok (.iconst 0, 1) := by decide +kernel
theorem dX11_voids_16 : decode cX11_voids 16 = .ok (.bastore, 1) := by decide +kernel
theorem dX11_voids_17 : decode cX11_voids 17 = .ok (.iinc 2 1, 3) := by decide +kernel
theorem dX11_voids_20 : decode cX11_voids 20 = .ok (.goto (-18), 3) := by decide +kernel
theorem dX11_voids_23 : decode cX11_voids 23 = .ok (.aload_n 0, 1) := by decide +kernel
theorem dX11_voids_24 : decode cX11_voids 24 = .ok (.getfield 173, 3) := by decide +kernel
theorem dX11_voids_27 : decode cX11_voids 27 = .ok (.iconst 1, 1) := by decide +kernel
theorem dX11_voids_28 : decode cX11_voids 28 = .ok (.isub, 1) := by decide +kernel
theorem dX11_voids_29 : decode cX11_voids 29 = .ok (.istore_n 2, 1) := by decide +kernel
theorem dX11_voids_30 : decode cX11_voids 30 = .ok (.iload_n 2, 1) := by decide +kernel
theorem dX11_voids_31 : decode cX11_voids 31 = .ok (.ifCond .lt 49, 3) := by decide +kernel
theorem dX11_voids_34 : decode cX11_voids 34 = .ok (.aload_n 0, 1) := by decide +kernel
theorem dX11_voids_35 : decode cX11_voids 35 = .ok (.iload_n 2, 1) := by decide +kernel
theorem dX11_voids_36 : decode cX11_voids 36 = .ok (.iload_n 1, 1) := by decide +kernel
theorem dX11_voids_37 : decode cX11_voids 37 = .ok (.invokevirtual 368, 3) := by decide +kernel
theorem dX11_voids_40 : decode cX11_voids 40 = .ok (.ifCond .eq 34, 3) := by decide +kernel
theorem dX11_voids_43 : decode cX11_voids 43 = .ok (.aload_n 0, 1) := by decide +kernel
theorem dX11_voids_44 : decode cX11_voids 44 = .ok (.getfield 140, 3) := by decide +kernel
theorem dX11_voids_47 : decode cX11_voids 47 = .ok (.iload_n 2, 1) := by decide +kernel
theorem dX11_voids_48 : decode cX11_voids 48 = .ok (.baload, 1) := by decide +kernel
theorem dX11_voids_49 : decode cX11_voids 49 = .ok (.ifCond .ne 25, 3) := by decide +kernel
theorem dX11_voids_52 : decode cX11_voids 52 = .ok (.aload_n 0, 1) := by decide +kernel
theorem dX11_voids_53 : decode cX11_voids 53 = .ok (.getfield 86, 3) := by decide +kernel
theorem dX11_voids_56 : decode cX11_voids 56 = .ok (.iload_n 2, 1) := by decide +kernel
theorem dX11_voids_57 : decode cX11_voids 57 = .ok (.iaload, 1) := by decide +kernel
theorem dX11_voids_58 : decode cX11_voids 58 = .ok (.iconst (-1), 1) := by decide +kernel
theorem dX11_voids_59 : decode cX11_voids 59 = .ok (.if_icmp .eq 15, 3) := by decide +kernel
theorem dX11_voids_62 : decode cX11_voids 62 = .ok (.aload_n 0, 1) := by decide +kernel
theorem dX11_voids_63 : decode cX11_voids 63 = .ok (.getfield 140, 3) := by decide +kernel
theorem dX11_voids_66 : decode cX11_voids 66 = .ok (.aload_n 0, 1) := by decide +kernel
theorem dX11_voids_67 : decode cX11_voids 67 = .ok (.getfield 86, 3) := by decide +kernel
theorem dX11_voids_70 : decode cX11_voids 70 = .ok (.iload_n 2, 1) := by decide +kernel
theorem dX11_voids_71 : decode cX11_voids 71 = .ok (.iaload, 1) := by decide +kernel
theorem dX11_voids_72 : decode cX11_voids 72 = .ok (.iconst 1, 1) := by decide +kernel
theorem dX11_voids_73 : decode cX11_voids 73 = .ok (.bastore, 1) := by decide +kernel
theorem dX11_voids_74 : decode cX11_voids 74 = .ok (.iinc 2 (-1), 3) := by decide +kernel
theorem dX11_voids_77 : decode cX11_voids 77 = .ok (.goto (-47), 3) := by decide +kernel
theorem dX11_voids_80 : decode cX11_voids 80 = .ok (.return_, 1) := by decide +kernel
theorem dX11_lay_0 : decode cX11_lay 0 = .ok (.aload_n 0, 1) := by decide +kernel
theorem dX11_lay_1 : decode cX11_lay 1 = .ok (.iload_n 2, 1) := by decide +kernel
theorem dX11_lay_2 : decode cX11_lay 2 = .ok (.invokevirtual 372, 3) := by decide +kernel
theorem dX11_lay_5 : decode cX11_lay 5 = .ok (.iconst 0, 1) := by decide +kernel
theorem dX11_lay_6 : decode cX11_lay 6 = .ok (.istore_n 3, 1) := by decide +kernel
theorem dX11_lay_7 : decode cX11_lay 7 = .ok (.iload_n 3, 1) := by decide +kernel
theorem dX11_lay_8 : decode cX11_lay 8 = .ok (.sipush 10000, 3) := by decide +kernel
theorem dX11_lay_11 : decode cX11_lay 11 = .ok (.if_icmp .ge 16, 3) := by decide +kernel
theorem dX11_lay_14 : decode cX11_lay 14 = .ok (.aload_n 0, 1) := by decide +kernel
theorem dX11_lay_15 : decode cX11_lay 15 = .ok (.getfield 149, 3) := by decide +kernel
theorem dX11_lay_18 : decode cX11_lay 18 = .ok (.iload_n 3, 1) := by decide +kernel
theorem dX11_lay_19 : decode cX11_lay 19 = .ok (.iconst 0, 1) := by decide +kernel
theorem dX11_lay_20 : decode cX11_lay 20 = .ok (.bastore, 1) := by decide +kernel
theorem dX11_lay_21 : decode cX11_lay 21 = .ok (.iinc 3 1, 3) := by decide +kernel
theorem dX11_lay_24 : decode cX11_lay 24 = .ok (.goto (-17), 3) := by decide +kernel
theorem dX11_lay_27 : decode cX11_lay 27 = .ok (.iconst 0, 1) := by decide +kernel
theorem dX11_lay_28 : decode cX11_lay 28 = .ok (.istore_n 3, 1) := by decide +kernel
theorem dX11_lay_29 : decode cX11_lay 29 = .ok (.iload_n 3, 1) := by decide +kernel
theorem dX11_lay_30 : decode cX11_lay 30 = .ok (.aload_n 0, 1) := by decide +kernel
theorem dX11_lay_31 : decode cX11_lay 31 = .ok (.getfield 173, 3) := by decide +kernel
theorem dX11_lay_34 : decode cX11_lay 34 = .ok (.if_icmp .ge 115, 3) := by decide +kernel
theorem dX11_lay_37 : decode cX11_lay 37 = .ok (.aload_n 0, 1) := by decide +kernel
theorem dX11_lay_38 : decode cX11_lay 38 = .ok (.iload_n 3, 1) := by decide +kernel
theorem dX11_lay_39 : decode cX11_lay 39 = .ok (.iload_n 2, 1) := by decide +kernel
theorem dX11_lay_40 : decode cX11_lay 40 = .ok (.invokevirtual 368, 3) := by decide +kernel
theorem dX11_lay_43 : decode cX11_lay 43 = .ok (.ifCond .eq 100, 3) := by decide +kernel
theorem dX11_lay_46 : decode cX11_lay 46 = .ok (.aload_n 0, 1) := by decide +kernel
theorem dX11_lay_47 : decode cX11_lay 47 = .ok (.getfield 140, 3) := by decide +kernel
theorem dX11_lay_50 : decode cX11_lay 50 = .ok (.iload_n 3, 1) := by decide +kernel
theorem dX11_lay_51 : decode cX11_lay 51 = .ok (.baload, 1) := by decide +kernel
theorem dX11_lay_52 : decode cX11_lay 52 = .ok (.ifCond .eq 6, 3) := by decide +kernel
theorem dX11_lay_55 : decode cX11_lay 55 = .ok (.goto 88, 3) := by decide +kernel
theorem dX11_lay_58 : decode cX11_lay 58 = .ok (.iconst 4, 1) := by decide +kernel
theorem dX11_lay_59 : decode cX11_lay 59 = .ok (.iload_n 3, 1) := by decide +kernel
theorem dX11_lay_60 : decode cX11_lay 60 = .ok (.imul, 1) := by decide +kernel
theorem dX11_lay_61 : decode cX11_lay 61 = .ok (.istore 4, 2) := by decide +kernel
theorem dX11_lay_63 : decode cX11_lay 63 = .ok (.iload 4, 2) := by decide +kernel
theorem dX11_lay_65 : decode cX11_lay 65 = .ok (.iconst 4, 1) := by decide +kernel
theorem dX11_lay_66 : decode cX11_lay 66 = .ok (.iload_n 3, 1) := by decide +kernel
theorem dX11_lay_67 : decode cX11_lay 67 = .ok (.imul, 1) := by decide +kernel
theorem dX11_lay_68 : decode cX11_lay 68 = .ok (.aload_n 0, 1) := by decide +kernel
theorem dX11_lay_69 : decode cX11_lay 69 = .ok (.getfield 83, 3) := by decide +kernel
theorem dX11_lay_72 : decode cX11_lay 72 = .ok (.iload_n 3, 1) := by decide +kernel
theorem dX11_lay_73 : decode cX11_lay 73 = .ok (.iaload, 1) := by decide +kernel
theorem dX11_lay_74 : decode cX11_lay 74 = .ok (.iadd, 1) := by decide +kernel
theorem dX11_lay_75 : decode cX11_lay 75 = .ok (.if_icmp .ge 68, 3) := by decide +kernel
theorem dX11_lay_78 : decode cX11_lay 78 = .ok (.aload_n 0, 1) := by decide +kernel
theorem dX11_lay_79 : decode cX11_lay 79 = .ok (.getfield 104, 3) := by decide +kernel
theorem dX11_lay_82 : decode cX11_lay 82 = .ok (.iload 4, 2) := by decide +kernel
theorem dX11_lay_84 : decode cX11_lay 84 = .ok (.iaload, 1) := by decide +kernel
theorem dX11_lay_85 : decode cX11_lay 85 = .ok (.iload_n 1, 1) := by decide +kernel
theorem dX11_lay_86 : decode cX11_lay 86 = .ok (.if_icmp .eq 6, 3) := by decide +kernel
theorem dX11_lay_89 : decode cX11_lay 89 = .ok (.goto 48, 3) := by decide +kernel
theorem dX11_lay_92 : decode cX11_lay 92 = .ok (.aload_n 0, 1) := by decide +kernel
theorem dX11_lay_93 : decode cX11_lay 93 = .ok (.getfield 143, 3) := by decide +kernel
theorem dX11_lay_96 : decode cX11_lay 96 = .ok (.aload_n 0, 1) := by decide +kernel
theorem dX11_lay_97 : decode cX11_lay 97 = .ok (.getfield 110, 3) := by decide +kernel
theorem dX11_lay_100 : decode cX11_lay 100 = .ok (.iload 4, 2) := by decide +kernel
theorem dX11_lay_102 : decode cX11_lay 102 = .ok (.iaload, 1) := by decide +kernel
theorem dX11_lay_103 : decode cX11_lay 103 = .ok (.aload_n 0, 1) := by decide +kernel
theorem dX11_lay_104 : decode cX11_lay 104 = .ok (.getfield 107, 3) := by decide +kernel
theorem dX11_lay_107 : decode cX11_lay 107 = .ok (.iload 4, 2) := by decide +kernel
theorem dX11_lay_109 : decode cX11_lay 109 = .ok (.iaload, 1) := by decide +kernel
theorem dX11_lay_110 : decode cX11_lay 110 = .ok (.iastore, 1) := by decide +kernel
theorem dX11_lay_111 : decode cX11_lay 111 = .ok (.aload_n 0, 1) := by decide +kernel
theorem dX11_lay_112 : decode cX11_lay 112 = .ok (.getfield 146, 3) := by decide +kernel
theorem dX11_lay_115 : decode cX11_lay 115 = .ok (.aload_n 0, 1) := by decide +kernel
theorem dX11_lay_116 : decode cX11_lay 116 = .ok (.getfield 110, 3) := by decide +kernel
theorem dX11_lay_119 : decode cX11_lay 119 = .ok (.iload 4, 2) := by decide +kernel
theorem dX11_lay_121 : decode cX11_lay 121 = .ok (.iaload, 1) := by decide +kernel
theorem dX11_lay_122 : decode cX11_lay 122 = .ok (.iload_n 3, 1) := by decide +kernel
theorem dX11_lay_123 : decode cX11_lay 123 = .ok (.iastore, 1) := by decide +kernel
theorem dX11_lay_124 : decode cX11_lay 124 = .ok (.aload_n 0, 1) := by decide +kernel
theorem dX11_lay_125 : decode cX11_lay 125 = .ok (.getfield 149, 3) := by decide +kernel
theorem dX11_lay_128 : decode cX11_lay 128 = .ok (.aload_n 0, 1) := by decide +kernel
theorem dX11_lay_129 : decode cX11_lay 129 = .ok (.getfield 110, 3) := by decide +kernel
theorem dX11_lay_132 : decode cX11_lay 132 = .ok (.iload 4, 2) := by decide +kernel
theorem dX11_lay_134 : decode cX11_lay 134 = .ok (.iaload, 1) := by decide +kernel
theorem dX11_lay_135 : decode cX11_lay 135 = .ok (.iconst 1, 1) := by decide +kernel
theorem dX11_lay_136 : decode cX11_lay 136 = .ok (.bastore, 1) := by decide +kernel
theorem dX11_lay_137 : decode cX11_lay 137 = .ok (.iinc 4 1, 3) := by decide +kernel
theorem dX11_lay_140 : decode cX11_lay 140 = .ok (.goto (-77), 3) := by decide +kernel
theorem dX11_lay_143 : decode cX11_lay 143 = .ok (.iinc 3 1, 3) := by decide +kernel
theorem dX11_lay_146 : decode cX11_lay 146 = .ok (.goto (-117), 3) := by decide +kernel
theorem dX11_lay_149 : decode cX11_lay 149 = .ok (.return_, 1) := by decide +kernel
theorem dX11_sinceOf_0 : decode cX11_sinceOf 0 = .ok (.iload_n 1, 1) := by decide +kernel
theorem dX11_sinceOf_1 : decode cX11_sinceOf 1 = .ok (.iconst 0, 1) := by decide +kernel
theorem dX11_sinceOf_2 : decode cX11_sinceOf 2 = .ok (.bipush 39, 2) := by decide +kernel
theorem dX11_sinceOf_4 : decode cX11_sinceOf 4 = .ok (.invokestatic 203, 3) := by decide +kernel
theorem dX11_sinceOf_7 : decode cX11_sinceOf 7 = .ok (.ifCond .eq 17, 3) := by decide +kernel
theorem dX11_sinceOf_10 : decode cX11_sinceOf 10 = .ok (.iload_n 2, 1) := by decide +kernel
theorem dX11_sinceOf_11 : decode cX11_sinceOf 11 = .ok (.invokestatic 176, 3) := by decide +kernel
theorem dX11_sinceOf_14 : decode cX11_sinceOf 14 = .ok (.ifCond .eq 10, 3) := by decide +kernel
theorem dX11_sinceOf_17 : decode cX11_sinceOf 17 = .ok (.iload_n 3, 1) := by decide +kernel
theorem dX11_sinceOf_18 : decode cX11_sinceOf 18 = .ok (.invokestatic 176, 3) := by decide +kernel
theorem dX11_sinceOf_21 : decode cX11_sinceOf 21 = .ok (.ifCond .ne 5, 3) := by decide +kernel
theorem dX11_sinceOf_24 : decode cX11_sinceOf 24 = .ok (.iconst (-1), 1) := by decide +kernel
theorem dX11_sinceOf_25 : decode cX11_sinceOf 25 = .ok (.ireturn, 1) := by decide +kernel
theorem dX11_sinceOf_26 : decode cX11_sinceOf 26 = .ok (.aload_n 0, 1) := by decide +kernel
theorem dX11_sinceOf_27 : decode cX11_sinceOf 27 = .ok (.iload_n 1, 1) := by decide +kernel
theorem dX11_sinceOf_28 : decode cX11_sinceOf 28 = .ok (.iload_n 3, 1) := by decide +kernel
theorem dX11_sinceOf_29 : decode cX11_sinceOf 29 = .ok (.invokevirtual 375, 3) := by decide +kernel
theorem dX11_sinceOf_32 : decode cX11_sinceOf 32 = .ok (.iload_n 2, 1) := by decide +kernel
theorem dX11_sinceOf_33 : decode cX11_sinceOf 33 = .ok (.istore 4, 2) := by decide +kernel
theorem dX11_sinceOf_35 : decode cX11_sinceOf 35 = .ok (.iload 4, 2) := by decide +kernel
theorem dX11_sinceOf_37 : decode cX11_sinceOf 37 = .ok (.ifCond .lt 19, 3) := by decide +kernel
theorem dX11_sinceOf_40 : decode cX11_sinceOf 40 = .ok (.aload_n 0, 1) := by decide +kernel
theorem dX11_sinceOf_41 : decode cX11_sinceOf 41 = .ok (.getfield 149, 3) := by decide +kernel
theorem dX11_sinceOf_44 : decode cX11_sinceOf 44 = .ok (.iload 4, 2) := by decide +kernel
theorem dX11_sinceOf_46 : decode cX11_sinceOf 46 = .ok (.baload, 1) := by decide +kernel
theorem dX11_sinceOf_47 : decode cX11_sinceOf 47 = .ok (.ifCond .ne 9, 3) := by decide +kernel
theorem dX11_sinceOf_50 : decode cX11_sinceOf 50 = .ok (.iinc 4 (-1), 3) := by decide +kernel
theorem dX11_sinceOf_53 : decode cX11_sinceOf 53 = .ok (.goto (-18), 3) := by decide +kernel
theorem dX11_sinceOf_56 : decode cX11_sinceOf 56 = .ok (.iload 4, 2) := by decide +kernel
theorem dX11_sinceOf_58 : decode cX11_sinceOf 58 = .ok (.ireturn, 1) := by decide +kernel
theorem dX11_law_0 : decode cX11_law 0 = .ok (.aload_n 0, 1) := by decide +kernel
theorem dX11_law_1 : decode cX11_law 1 = .ok (.iconst 0, 1) := by decide +kernel
theorem dX11_law_2 : decode cX11_law 2 = .ok (.putfield 158, 3) := by decide +kernel
theorem dX11_law_5 : decode cX11_law 5 = .ok (.aload_n 0, 1) := by decide +kernel
theorem dX11_law_6 : decode cX11_law 6 = .ok (.iload_n 1, 1) := by decide +kernel
theorem dX11_law_7 : decode cX11_law 7 = .ok (.iload_n 2, 1) := by decide +kernel
theorem dX11_law_8 : decode cX11_law 8 = .ok (.iload_n 3, 1) := by decide +kernel
theorem dX11_law_9 : decode cX11_law 9 = .ok (.invokevirtual 378, 3) := by decide +kernel
theorem dX11_law_12 : decode cX11_law 12 = .ok (.istore 4, 2) := by decide +kernel
theorem dX11_law_14 : decode cX11_law 14 = .ok (.iload 4, 2) := by decide +kernel
theorem dX11_law_16 : decode cX11_law 16 = .ok (.ifCond .ge 9, 3) := by decide +kernel
theorem dX11_law_19 : decode cX11_law 19 = .ok (.ldc_w 336, 3) := by decide +kernel
theorem dX11_law_22 : decode cX11_law 22 = .ok (.goto 10, 3) := by decide +kernel
theorem dX11_law_25 : decode cX11_law 25 = .ok (.aload_n 0, 1) := by decide +kernel
theorem dX11_law_26 : decode cX11_law 26 = .ok (.getfield 143, 3) := by decide +kernel
theorem dX11_law_29 : decode cX11_law 29 = .ok (.iload 4, 2) := by decide +kernel
theorem dX11_law_31 : decode cX11_law 31 = .ok (.iaload, 1) := by decide +kernel
theorem dX11_law_32 : decode cX11_law 32 = .ok (.ireturn, 1) := by decide +kernel
theorem dX11_source_0 : decode cX11_source 0 = .ok (.aload_n 0, 1) := by decide +kernel
theorem dX11_source_1 : decode cX11_source 1 = .ok (.iconst 0, 1) := by decide +kernel
theorem dX11_source_2 : decode cX11_source 2 = .ok (.putfield 158, 3) := by decide +kernel
theorem dX11_source_5 : decode cX11_source 5 = .ok (.aload_n 0, 1) := by decide +kernel
theorem dX11_source_6 : decode cX11_source 6 = .ok (.iload_n 1, 1) := by decide +kernel
theorem dX11_source_7 : decode cX11_source 7 = .ok (.iload_n 2, 1) := by decide +kernel
theorem dX11_source_8 : decode cX11_source 8 = .ok (.iload_n 3, 1) := by decide +kernel
theorem dX11_source_9 : decode cX11_source 9 = .ok (.invokevirtual 378, 3) := by decide +kernel
theorem dX11_source_12 : decode cX11_source 12 = .ok (.istore 4, 2) := by decide +kernel
theorem dX11_source_14 : decode cX11_source 14 = .ok (.iload 4, 2) := by decide +kernel
theorem dX11_source_16 : decode cX11_source 16 = .ok (.ifCond .ge 7, 3) := by decide +kernel
theorem dX11_source_19 : decode cX11_source 19 = .ok (.iconst (-1), 1) := by decide +kernel
theorem dX11_source_20 : decode cX11_source 20 = .ok (.goto 10, 3) := by decide +kernel
theorem dX11_source_23 : decode cX11_source 23 = .ok (.aload_n 0, 1) := by decide +kernel
theorem dX11_source_24 : decode cX11_source 24 = .ok (.getfield 146, 3) := by decide +kernel
theorem dX11_source_27 : decode cX11_source 27 = .ok (.iload 4, 2) := by decide +kernel
theorem dX11_source_29 : decode cX11_source 29 = .ok (.iaload, 1) := by decide +kernel
theorem dX11_source_30 : decode cX11_source 30 = .ok (.ireturn, 1) := by decide +kernel
theorem dX11_isVoid_0 : decode cX11_isVoid 0 = .ok (.aload_n 0, 1) := by decide +kernel
theorem dX11_isVoid_1 : decode cX11_isVoid 1 = .ok (.iconst 0, 1) := by decide +kernel
theorem dX11_isVoid_2 : decode cX11_isVoid 2 = .ok (.putfield 158, 3) := by decide +kernel
theorem dX11_isVoid_5 : decode cX11_isVoid 5 = .ok (.aload_n 0, 1) := by decide +kernel
theorem dX11_isVoid_6 : decode cX11_isVoid 6 = .ok (.iload_n 1, 1) := by decide +kernel
theorem dX11_isVoid_7 : decode cX11_isVoid 7 = .ok (.invokevirtual 328, 3) := by decide +kernel
theorem dX11_isVoid_10 : decode cX11_isVoid 10 = .ok (.ifCond .eq 19, 3) := by decide +kernel
theorem dX11_isVoid_13 : decode cX11_isVoid 13 = .ok (.iload_n 2, 1) := by decide +kernel
theorem dX11_isVoid_14 : decode cX11_isVoid 14 = .ok (.invokestatic 176, 3) := by decide +kernel
theorem dX11_isVoid_17 : decode cX11_isVoid 17 = .ok (.ifCond .eq 12, 3) := by decide +kernel
theorem dX11_isVoid_20 : decode cX11_isVoid 20 = .ok (.aload_n 0, 1) := by decide +kernel
theorem dX11_isVoid_21 : decode cX11_isVoid 21 = .ok (.iload_n 1, 1) := by decide +kernel
theorem dX11_isVoid_22 : decode cX11_isVoid 22 = .ok (.iload_n 2, 1) := by decide +kernel
theorem dX11_isVoid_23 : decode cX11_isVoid 23 = .ok (.invokevirtual 368, 3) := by decide +kernel
theorem dX11_isVoid_26 : decode cX11_isVoid 26 = .ok (.ifCond .ne 5, 3) := by decide +kernel
theorem dX11_isVoid_29 : decode cX11_isVoid 29 = .ok (.iconst (-1), 1) := by decide +kernel
theorem dX11_isVoid_30 : decode cX11_isVoid 30 = .ok (.ireturn, 1) := by decide +kernel
theorem dX11_isVoid_31 : decode cX11_isVoid 31 = .ok (.aload_n 0, 1) := by decide +kernel
theorem dX11_isVoid_32 : decode cX11_isVoid 32 = .ok (.iload_n 2, 1) := by decide +kernel
theorem dX11_isVoid_33 : decode cX11_isVoid 33 = .ok (.invokevirtual 372, 3) := by decide +kernel
theorem dX11_isVoid_36 : decode cX11_isVoid 36 = .ok (.aload_n 0, 1) := by decide +kernel
theorem dX11_isVoid_37 : decode cX11_isVoid 37 = .ok (.getfield 140, 3) := by decide +kernel
theorem dX11_isVoid_40 : decode cX11_isVoid 40 = .ok (.iload_n 1, 1) := by decide +kernel
theorem dX11_isVoid_41 : decode cX11_isVoid 41 = .ok (.baload, 1) := by decide +kernel
theorem dX11_isVoid_42 : decode cX11_isVoid 42 = .ok (.ifCond .eq 7, 3) := by decide +kernel
theorem dX11_isVoid_45 : decode cX11_isVoid 45 = .ok (.iconst 1, 1) := by decide +kernel
theorem dX11_isVoid_46 : decode cX11_isVoid 46 = .ok (.goto 4, 3) := by decide +kernel
theorem dX11_isVoid_49 : decode cX11_isVoid 49 = .ok (.iconst 0, 1) := by decide +kernel
theorem dX11_isVoid_50 : decode cX11_isVoid 50 = .ok (.ireturn, 1) := by decide +kernel
theorem dX11_changes_0 : decode cX11_changes 0 = .ok (.aload_n 0, 1) := by decide +kernel
theorem dX11_changes_1 : decode cX11_changes 1 = .ok (.iconst 0, 1) := by decide +kernel
theorem dX11_changes_2 : decode cX11_changes 2 = .ok (.putfield 158, 3) := by decide +kernel
theorem dX11_changes_5 : decode cX11_changes 5 = .ok (.iload_n 1, 1) := by decide +kernel
theorem dX11_changes_6 : decode cX11_changes 6 = .ok (.iconst 0, 1) := by decide +kernel
theorem dX11_changes_7 : decode cX11_changes 7 = .ok (.bipush 39, 2) := by decide +kernel
theorem dX11_changes_9 : decode cX11_changes 9 = .ok (.invokestatic 203, 3) := by decide +kernel
theorem dX11_changes_12 : decode cX11_changes 12 = .ok (.ifCond .eq 10, 3) := by decide +kernel
theorem dX11_changes_15 : decode cX11_changes 15 = .ok (.iload_n 2, 1) := by decide +kernel
theorem dX11_changes_16 : decode cX11_changes 16 = .ok (.invokestatic 176, 3) := by decide +kernel
theorem dX11_changes_19 : decode cX11_changes 19 = .ok (.ifCond .ne 5, 3) := by decide +kernel
theorem dX11_changes_22 : decode cX11_changes 22 = .ok (.iconst (-1), 1) := by decide +kernel
theorem dX11_changes_23 : decode cX11_changes 23 = .ok (.ireturn, 1) := by decide +kernel
theorem dX11_changes_24 : decode cX11_changes 24 = .ok (.aload_n 0, 1) := by decide +kernel
theorem dX11_changes_25 : decode cX11_changes 25 = .ok (.iload_n 1, 1) := by decide +kernel
theorem dX11_changes_26 : decode cX11_changes 26 = .ok (.iload_n 2, 1) := by decide +kernel
theorem dX11_changes_27 : decode cX11_changes 27 = .ok (.invokevirtual 375, 3) := by decide +kernel
theorem dX11_changes_30 : decode cX11_changes 30 = .ok (.ldc_w 336, 3) := by decide +kernel
theorem dX11_changes_33 : decode cX11_changes 33 = .ok (.istore_n 3, 1) := by decide +kernel
theorem dX11_changes_34 : decode cX11_changes 34 = .ok (.iconst 0, 1) := by decide +kernel
theorem dX11_changes_35 : decode cX11_changes 35 = .ok (.istore 4, 2) := by decide +kernel
theorem dX11_changes_37 : decode cX11_changes 37 = .ok (.iconst 0, 1) := by decide +kernel
theorem dX11_changes_38 : decode cX11_changes 38 = .ok (.istore 5, 2) := by decide +kernel
theorem dX11_changes_40 : decode cX11_changes 40 = .ok (.iload 5, 2) := by decide +kernel
theorem dX11_changes_42 : decode cX11_changes 42 = .ok (.sipush 10000, 3) := by decide +kernel
theorem dX11_changes_45 : decode cX11_changes 45 = .ok (.if_icmp .ge 44, 3) := by decide +kernel
theorem dX11_changes_48 : decode cX11_changes 48 = .ok (.aload_n 0, 1) := by decide +kernel
theorem dX11_changes_49 : decode cX11_changes 49 = .ok (.getfield 149, 3) := by decide +kernel
theorem dX11_changes_52 : decode cX11_changes 52 = .ok (.iload 5, 2) := by decide +kernel
theorem dX11_changes_54 : decode cX11_changes 54 = .ok (.baload, 1) := by decide +kernel
theorem dX11_changes_55 : decode cX11_changes 55 = .ok (.ifCond .eq 28, 3) := by decide +kernel
theorem dX11_changes_58 : decode cX11_changes 58 = .ok (.aload_n 0, 1) := by decide +kernel
theorem dX11_changes_59 : decode cX11_changes 59 = .ok (.getfield 143, 3) := by decide +kernel
theorem dX11_changes_62 : decode cX11_changes 62 = .ok (.iload 5, 2) := by decide +kernel
theorem dX11_changes_64 : decode cX11_changes 64 = .ok (.iaload, 1) := by decide +kernel
theorem dX11_changes_65 : decode cX11_changes 65 = .ok (.iload_n 3, 1) := by decide +kernel
theorem dX11_changes_66 : decode cX11_changes 66 = .ok (.if_icmp .ne 6, 3) := by decide +kernel
theorem dX11_changes_69 : decode cX11_changes 69 = .ok (.goto 14, 3) := by decide +kernel
theorem dX11_changes_72 : decode cX11_changes 72 = .ok (.aload_n 0, 1) := by decide +kernel
theorem dX11_changes_73 : decode cX11_changes 73 = .ok (.getfield 143, 3) := by decide +kernel
theorem dX11_changes_76 : decode cX11_changes 76 = .ok (.iload 5, 2) := by decide +kernel
theorem dX11_changes_78 : decode cX11_changes 78 = .ok (.iaload, 1) := by decide +kernel
theorem dX11_changes_79 : decode cX11_changes 79 = .ok (.istore_n 3, 1) := by decide +kernel
theorem dX11_changes_80 : decode cX11_changes 80 = .ok (.iinc 4 1, 3) := by decide +kernel
theorem dX11_changes_83 : decode cX11_changes 83 = .ok (.iinc 5 1, 3) := by decide +kernel
theorem dX11_changes_86 : decode cX11_changes 86 = .ok (.goto (-46), 3) := by decide +kernel
theorem dX11_changes_89 : decode cX11_changes 89 = .ok (.iload 4, 2) := by decide +kernel
theorem dX11_changes_91 : decode cX11_changes 91 = .ok (.ireturn, 1) := by decide +kernel
theorem dX11_find_0 : decode cX11_find 0 = .ok (.aload_n 0, 1) := by decide +kernel
theorem dX11_find_1 : decode cX11_find 1 = .ok (.iconst 0, 1) := by decide +kernel
theorem dX11_find_2 : decode cX11_find 2 = .ok (.putfield 158, 3) := by decide +kernel
theorem dX11_find_5 : decode cX11_find 5 = .ok (.lload_n 1, 1) := by decide +kernel
theorem dX11_find_6 : decode cX11_find 6 = .ok (.invokestatic 350, 3) := by decide +kernel
theorem dX11_find_9 : decode cX11_find 9 = .ok (.ifCond .eq 10, 3) := by decide +kernel
theorem dX11_find_12 : decode cX11_find 12 = .ok (.iload_n 3, 1) := by decide +kernel
theorem dX11_find_13 : decode cX11_find 13 = .ok (.invokestatic 176, 3) := by decide +kernel
theorem dX11_find_16 : decode cX11_find 16 = .ok (.ifCond .ne 5, 3) := by decide +kernel
theorem dX11_find_19 : decode cX11_find 19 = .ok (.iconst (-1), 1) := by decide +kernel
theorem dX11_find_20 : decode cX11_find 20 = .ok (.ireturn, 1) := by decide +kernel
theorem dX11_find_21 : decode cX11_find 21 = .ok (.iconst 1, 1) := by decide +kernel
theorem dX11_find_22 : decode cX11_find 22 = .ok (.istore 4, 2) := by decide +kernel
theorem dX11_find_24 : decode cX11_find 24 = .ok (.aload_n 0, 1) := by decide +kernel
theorem dX11_find_25 : decode cX11_find 25 = .ok (.getfield 152, 3) := by decide +kernel
theorem dX11_find_28 : decode cX11_find 28 = .ok (.iconst 0, 1) := by decide +kernel
theorem dX11_find_29 : decode cX11_find 29 = .ok (.lload_n 1, 1) := by decide +kernel
theorem dX11_find_30 : decode cX11_find 30 = .ok (.lastore, 1) := by decide +kernel
theorem dX11_find_31 : decode cX11_find 31 = .ok (.iconst 0, 1) := by decide +kernel
theorem dX11_find_32 : decode cX11_find 32 = .ok (.istore 5, 2) := by decide +kernel
theorem dX11_find_34 : decode cX11_find 34 = .ok (.iload 5, 2) := by decide +kernel
theorem dX11_find_36 : decode cX11_find 36 = .ok (.iload 4, 2) := by decide +kernel
theorem dX11_find_38 : decode cX11_find 38 = .ok (.if_icmp .ge 131, 3) := by decide +kernel
theorem dX11_find_41 : decode cX11_find 41 = .ok (.iconst 0, 1) := by decide +kernel
theorem dX11_find_42 : decode cX11_find 42 = .ok (.istore 6, 2) := by decide +kernel
theorem dX11_find_44 : decode cX11_find 44 = .ok (.iload 6, 2) := by decide +kernel
theorem dX11_find_46 : decode cX11_find 46 = .ok (.aload_n 0, 1) := by decide +kernel
theorem dX11_find_47 : decode cX11_find 47 = .ok (.getfield 173, 3) := by decide +kernel
theorem dX11_find_50 : decode cX11_find 50 = .ok (.if_icmp .ge 113, 3) := by decide +kernel
theorem dX11_find_53 : decode cX11_find 53 = .ok (.aload_n 0, 1) := by decide +kernel
theorem dX11_find_54 : decode cX11_find 54 = .ok (.getfield 92, 3) := by decide +kernel
theorem dX11_find_57 : decode cX11_find 57 = .ok (.iload 6, 2) := by decide +kernel
theorem dX11_find_59 : decode cX11_find 59 = .ok (.laload, 1) := by decide +kernel
theorem dX11_find_60 : decode cX11_find 60 = .ok (.lconst 0, 1) := by decide +kernel
theorem dX11_find_61 : decode cX11_find 61 = .ok (.lcmp, 1) := by decide +kernel
theorem dX11_find_62 : decode cX11_find 62 = .ok (.ifCond .eq 95, 3) := by decide +kernel
theorem dX11_find_65 : decode cX11_find 65 = .ok (.aload_n 0, 1) := by decide +kernel
theorem dX11_find_66 : decode cX11_find 66 = .ok (.iload 6, 2) := by decide +kernel
theorem dX11_find_68 : decode cX11_find 68 = .ok (.iload_n 3, 1) := by decide +kernel
theorem dX11_find_69 : decode cX11_find 69 = .ok (.invokevirtual 368, 3) := by decide +kernel
theorem dX11_find_72 : decode cX11_find 72 = .ok (.ifCond .eq 85, 3) := by decide +kernel
theorem dX11_find_75 : decode cX11_find 75 = .ok (.aload_n 0, 1) := by decide +kernel
theorem dX11_find_76 : decode cX11_find 76 = .ok (.getfield 95, 3) := by decide +kernel
theorem dX11_find_79 : decode cX11_find 79 = .ok (.iload 6, 2) := by decide +kernel
theorem dX11_find_81 : decode cX11_find 81 = .ok (.laload, 1) := by decide +kernel
theorem dX11_find_82 : decode cX11_find 82 = .ok (.aload_n 0, 1) := by decide +kernel
theorem dX11_find_83 : decode cX11_find 83 = .ok (.getfield 152, 3) := by decide +kernel
theorem dX11_find_86 : decode cX11_find 86 = .ok (.iload 5, 2) := by decide +kernel
theorem dX11_find_88 : decode cX11_find 88 = .ok (.laload, 1) := by decide +kernel
theorem dX11_find_89 : decode cX11_find 89 = .ok (.lcmp, 1) := by decide +kernel
theorem dX11_find_90 : decode cX11_find 90 = .ok (.ifCond .eq 6, 3) := by decide +kernel
theorem dX11_find_93 : decode cX11_find 93 = .ok (.goto 64, 3) := by decide +kernel
theorem dX11_find_96 : decode cX11_find 96 = .ok (.iconst 0, 1) := by decide +kernel
theorem dX11_find_97 : decode cX11_find 97 = .ok (.istore 7, 2) := by decide +kernel
theorem dX11_find_99 : decode cX11_find 99 = .ok (.iload 7, 2) := by decide +kernel
theorem dX11_find_101 : decode cX11_find 101 = .ok (.iload 4, 2) := by decide +kernel
theorem dX11_find_103 : decode cX11_find 103 = .ok (.if_icmp .ge 27, 3) := by decide +kernel
theorem dX11_find_106 : decode cX11_find 106 = .ok (.aload_n 0, 1) := by decide +kernel
theorem dX11_find_107 : decode cX11_find 107 = .ok (.getfield 152, 3) := by decide +kernel
theorem dX11_find_110 : decode cX11_find 110 = .ok (.iload 7, 2) := by decide +kernel
theorem dX11_find_112 : decode cX11_find 112 = .ok (.laload, 1) := by decide +kernel
theorem dX11_find_113 : decode cX11_find 113 = .ok (.aload_n 0, 1) := by decide +kernel
theorem dX11_find_114 : decode cX11_find 114 = .ok (.getfield 92, 3) := by decide +kernel
theorem dX11_find_117 : decode cX11_find 117 = .ok (.iload 6, 2) := by decide +kernel
theorem dX11_find_119 : decode cX11_find 119 = .ok (.laload, 1) := by decide +kernel
theorem dX11_find_120 : decode cX11_find 120 = .ok (.lcmp, 1) := by decide +kernel
theorem dX11_find_121 : decode cX11_find 121 = .ok (.ifCond .eq 9, 3) := by decide +kernel
theorem dX11_find_124 : decode cX11_find 124 = .ok (.iinc 7 1, 3) := by decide +kernel
theorem dX11_find_127 : decode cX11_find 127 = .ok (.goto (-28), 3) := by decide +kernel
theorem dX11_find_130 : decode cX11_find 130 = .ok (.iload 7, 2) := by decide +kernel
theorem dX11_find_132 : decode cX11_find 132 = .ok (.iload 4, 2) := by decide +kernel
theorem dX11_find_134 : decode cX11_find 134 = .ok (.if_icmp .ge 6, 3) := by decide +kernel
theorem dX11_find_137 : decode cX11_find 137 = .ok (.goto 20, 3) := by decide +kernel
theorem dX11_find_140 : decode cX11_find 140 = .ok (.aload_n 0, 1) := by decide +kernel
theorem dX11_find_141 : decode cX11_find 141 = .ok (.getfield 152, 3) := by decide +kernel
theorem dX11_find_144 : decode cX11_find 144 = .ok (.iload 4, 2) := by decide +kernel
theorem dX11_find_146 : decode cX11_find 146 = .ok (.aload_n 0, 1) := by decide +kernel
theorem dX11_find_147 : decode cX11_find 147 = .ok (.getfield 92, 3) := by decide +kernel
theorem dX11_find_150 : decode cX11_find 150 = .ok (.iload 6, 2) := by decide +kernel
theorem dX11_find_152 : decode cX11_find 152 = .ok (.laload, 1) := by decide +kernel
theorem dX11_find_153 : decode cX11_find 153 = .ok (.lastore, 1) := by decide +kernel
theorem dX11_find_154 : decode cX11_find 154 = .ok (.iinc 4 1, 3) := by decide +kernel
theorem dX11_find_157 : decode cX11_find 157 = .ok (.iinc 6 1, 3) := by decide +kernel
theorem dX11_find_160 : decode cX11_find 160 = .ok (.goto (-116), 3) := by decide +kernel
theorem dX11_find_163 : decode cX11_find 163 = .ok (.iinc 5 1, 3) := by decide +kernel
theorem dX11_find_166 : decode cX11_find 166 = .ok (.goto (-132), 3) := by decide +kernel
theorem dX11_find_169 : decode cX11_find 169 = .ok (.aload_n 0, 1) := by decide +kernel
theorem dX11_find_170 : decode cX11_find 170 = .ok (.iconst 0, 1) := by decide +kernel
theorem dX11_find_171 : decode cX11_find 171 = .ok (.putfield 382, 3) := by decide +kernel
theorem dX11_find_174 : decode cX11_find 174 = .ok (.iconst 0, 1) := by decide +kernel
theorem dX11_find_175 : decode cX11_find 175 = .ok (.istore 5, 2) := by decide +kernel
theorem dX11_find_177 : decode cX11_find 177 = .ok (.iload 5, 2) := by decide +kernel
theorem dX11_find_179 : decode cX11_find 179 = .ok (.aload_n 0, 1) := by decide +kernel
theorem dX11_find_180 : decode cX11_find 180 = .ok (.getfield 173, 3) := by decide +kernel
theorem dX11_find_183 : decode cX11_find 183 = .ok (.if_icmp .ge 54, 3) := by decide +kernel
theorem dX11_find_186 : decode cX11_find 186 = .ok (.aload_n 0, 1) := by decide +kernel
theorem dX11_find_187 : decode cX11_find 187 = .ok (.iload 5, 2) := by decide +kernel
theorem dX11_find_189 : decode cX11_find 189 = .ok (.iload_n 3, 1) := by decide +kernel
theorem dX11_find_190 : decode cX11_find 190 = .ok (.invokevirtual 368, 3) := by decide +kernel
theorem dX11_find_193 : decode cX11_find 193 = .ok (.ifCond .eq 38, 3) := by decide +kernel
theorem dX11_find_196 : decode cX11_find 196 = .ok (.aload_n 0, 1) := by decide +kernel
theorem dX11_find_197 : decode cX11_find 197 = .ok (.iload 5, 2) := by decide +kernel
theorem dX11_find_199 : decode cX11_find 199 = .ok (.iload 4, 2) := by decide +kernel
theorem dX11_find_201 : decode cX11_find 201 = .ok (.invokevirtual 385, 3) := by decide +kernel
theorem dX11_find_204 : decode cX11_find 204 = .ok (.ifCond .ne 6, 3) := by decide +kernel
theorem dX11_find_207 : decode cX11_find 207 = .ok (.goto 24, 3) := by decide +kernel
theorem dX11_find_210 : decode cX11_find 210 = .ok (.aload_n 0, 1) := by decide +kernel
theorem dX11_find_211 : decode cX11_find 211 = .ok (.getfield 155, 3) := by decide +kernel
theorem dX11_find_214 : decode cX11_find 214 = .ok (.aload_n 0, 1) := by decide +kernel
theorem dX11_find_215 : decode cX11_find 215 = .ok (.getfield 382, 3) := by decide +kernel
theorem dX11_find_218 : decode cX11_find 218 = .ok (.iload 5, 2) := by decide +kernel
theorem dX11_find_220 : decode cX11_find 220 = .ok (.iastore, 1) := by decide +kernel
theorem dX11_find_221 : decode cX11_find 221 = .ok (.aload_n 0, 1) := by decide +kernel
theorem dX11_find_222 : decode cX11_find 222 = .ok (.dup, 1) := by decide +kernel
theorem dX11_find_223 : decode cX11_find 223 = .ok (.getfield 382, 3) := by decide +kernel
theorem dX11_find_226 : decode cX11_find 226 = .ok (.iconst 1, 1) := by decide +kernel
theorem dX11_find_227 : decode cX11_find 227 = .ok (.iadd, 1) := by decide +kernel
theorem dX11_find_228 : decode cX11_find 228 = .ok (.putfield 382, 3) := by decide +kernel
theorem dX11_find_231 : decode cX11_find 231 = .ok (.iinc 5 1, 3) := by decide +kernel
theorem dX11_find_234 : decode cX11_find 234 = .ok (.goto (-57), 3) := by decide +kernel
theorem dX11_find_237 : decode cX11_find 237 = .ok (.aload_n 0, 1) := by decide +kernel
theorem dX11_find_238 : decode cX11_find 238 = .ok (.getfield 382, 3) := by decide +kernel
theorem dX11_find_241 : decode cX11_find 241 = .ok (.ireturn, 1) := by decide +kernel
theorem dX11_isNamed_0 : decode cX11_isNamed 0 = .ok (.iconst 0, 1) := by decide +kernel
theorem dX11_isNamed_1 : decode cX11_isNamed 1 = .ok (.istore_n 3, 1) := by decide +kernel
theorem dX11_isNamed_2 : decode cX11_isNamed 2 = .ok (.iconst 0, 1) := by decide +kernel
theorem dX11_isNamed_3 : decode cX11_isNamed 3 = .ok (.istore 4, 2) := by decide +kernel
theorem dX11_isNamed_5 : decode cX11_isNamed 5 = .ok (.iload 4, 2) := by decide +kernel
theorem dX11_isNamed_7 : decode cX11_isNamed 7 = .ok (.aload_n 0, 1) := by decide +kernel
theorem dX11_isNamed_8 : decode cX11_isNamed 8 = .ok (.getfield 47, 3) := by decide +kernel
theorem dX11_isNamed_11 : decode cX11_isNamed 11 = .ok (.aload_n 0, 1) := by decide +kernel
theorem dX11_isNamed_12 : decode cX11_isNamed 12 = .ok (.getfield 71, 3) := by decide +kernel
theorem dX11_isNamed_15 : decode cX11_isNamed 15 = .ok (.iload_n 1, 1) := by decide +kernel
theorem dX11_isNamed_16 : decode cX11_isNamed 16 = .ok (.iaload, 1) := by decide +kernel
theorem dX11_isNamed_17 : decode cX11_isNamed 17 = .ok (.iaload, 1) := by decide +kernel
theorem dX11_isNamed_18 : decode cX11_isNamed 18 = .ok (.if_icmp .ge 96, 3) := by decide +kernel
theorem dX11_isNamed_21 : decode cX11_isNamed 21 = .ok (.aload_n 0, 1) := by decide +kernel
theorem dX11_isNamed_22 : decode cX11_isNamed 22 = .ok (.getfield 50, 3) := by decide +kernel
theorem dX11_isNamed_25 : decode cX11_isNamed 25 = .ok (.bipush 8, 2) := by decide +kernel
theorem dX11_isNamed_27 : decode cX11_isNamed 27 = .ok (.aload_n 0, 1) := by decide +kernel
theorem dX11_isNamed_28 : decode cX11_isNamed 28 = .ok (.getfield 71, 3) := by decide +kernel
theorem dX11_isNamed_31 : decode cX11_isNamed 31 = .ok (.iload_n 1, 1) := by decide +kernel
theorem dX11_isNamed_32 : decode cX11_isNamed 32 = .ok (.iaload, 1) := by decide +kernel
theorem dX11_isNamed_33 : decode cX11_isNamed 33 = .ok (.imul, 1) := by decide +kernel
theorem dX11_isNamed_34 : decode cX11_isNamed 34 = .ok (.iload 4, 2) := by decide +kernel
theorem dX11_isNamed_36 : decode cX11_isNamed 36 = .ok (.iadd, 1) := by decide +kernel
theorem dX11_isNamed_37 : decode cX11_isNamed 37 = .ok (.iaload, 1) := by decide +kernel
theorem dX11_isNamed_38 : decode cX11_isNamed 38 = .ok (.iconst 2, 1) := by decide +kernel
theorem dX11_isNamed_39 : decode cX11_isNamed 39 = .ok (.if_icmp .ne 69, 3) := by decide +kernel
theorem dX11_isNamed_42 : decode cX11_isNamed 42 = .ok (.aload_n 0, 1) := by decide +kernel
theorem dX11_isNamed_43 : decode cX11_isNamed 43 = .ok (.getfield 101, 3) := by decide +kernel
theorem dX11_isNamed_46 : decode cX11_isNamed 46 = .ok (.bipush 8, 2) := by decide +kernel
theorem dX11_isNamed_48 : decode cX11_isNamed 48 = .ok (.iload_n 1, 1) := by decide +kernel
theorem dX11_isNamed_49 : decode cX11_isNamed 49 = .ok (.imul, 1) := by decide +kernel
theorem dX11_isNamed_50 : decode cX11_isNamed 50 = .ok (.iload 4, 2) := by decide +kernel
theorem dX11_isNamed_52 : decode cX11_isNamed 52 = .ok (.iadd, 1) := by decide +kernel
theorem dX11_isNamed_53 : decode cX11_isNamed 53 = .ok (.baload, 1) := by decide +kernel
theorem dX11_isNamed_54 : decode cX11_isNamed 54 = .ok (.ifCond .ne 6, 3) := by decide +kernel
theorem dX11_isNamed_57 : decode cX11_isNamed 57 = .ok (.goto 51, 3) := by decide +kernel
theorem dX11_isNamed_60 : decode cX11_isNamed 60 = .ok (.iconst 0, 1) := by decide +kernel
theorem dX11_isNamed_61 : decode cX11_isNamed 61 = .ok (.istore 5, 2) := by decide +kernel
theorem dX11_isNamed_63 : decode cX11_isNamed 63 = .ok (.iload 5, 2) := by decide +kernel
theorem dX11_isNamed_65 : decode cX11_isNamed 65 = .ok (.iload_n 2, 1) := by decide +kernel
theorem dX11_isNamed_66 : decode cX11_isNamed 66 = .ok (.if_icmp .ge 42, 3) := by decide +kernel
theorem dX11_isNamed_69 : decode cX11_isNamed 69 = .ok (.iload_n 3, 1) := by decide +kernel
theorem dX11_isNamed_70 : decode cX11_isNamed 70 = .ok (.ifCond .ne 26, 3) := by decide +kernel
theorem dX11_isNamed_73 : decode cX11_isNamed 73 = .ok (.aload_n 0, 1) := by decide +kernel
theorem dX11_isNamed_74 : decode cX11_isNamed 74 = .ok (.getfield 89, 3) := by decide +kernel
theorem dX11_isNamed_77 : decode cX11_isNamed 77 = .ok (.bipush 8, 2) := by decide +kernel
theorem dX11_isNamed_79 : decode cX11_isNamed 79 = .ok (.iload_n 1, 1) := by decide +kernel
theorem dX11_isNamed_80 : decode cX11_isNamed 80 = .ok (.imul, 1) := by decide +kernel
theorem dX11_isNamed_81 : decode cX11_isNamed 81 = .ok (.iload 4, 2) := by decide +kernel
theorem dX11_isNamed_83 : decode cX11_isNamed 83 = .ok (.iadd, 1) := by decide +kernel
theorem dX11_isNamed_84 : decode cX11_isNamed 84 = .ok (.laload, 1) := by decide +kernel
theorem dX11_isNamed_85 : decode cX11_isNamed 85 = .ok (.aload_n 0, 1) := by decide +kernel
theorem dX11_isNamed_86 : decode cX11_isNamed 86 = .ok (.getfield 152, 3) := by decide +kernel
theorem dX11_isNamed_89 : decode cX11_isNamed 89 = .ok (.iload 5, 2) := by decide +kernel
theorem dX11_isNamed_91 : decode cX11_isNamed 91 = .ok (.laload, 1) := by decide +kernel
theorem dX11_isNamed_92 : decode cX11_isNamed 92 = .ok (.lcmp, 1) := by decide +kernel
theorem dX11_isNamed_93 : decode cX11_isNamed 93 = .ok (.ifCond .ne 7, 3) := by decide +kernel
theorem dX11_isNamed_96 : decode cX11_isNamed 96 = .ok (.iconst 1, 1) := by decide +kernel
theorem dX11_isNamed_97 : decode cX11_isNamed 97 = .ok (.goto 4, 3) := by decide +kernel
theorem dX11_isNamed_100 : decode cX11_isNamed 100 = .ok (.iconst 0, 1) := by decide +kernel
theorem dX11_isNamed_101 : decode cX11_isNamed 101 = .ok (.istore_n 3, 1) := by decide +kernel
theorem dX11_isNamed_102 : decode cX11_isNamed 102 = .ok (.iinc 5 1, 3) := by decide +kernel
theorem dX11_isNamed_105 : decode cX11_isNamed 105 = .ok (.goto (-42), 3) := by decide +kernel
theorem dX11_isNamed_108 : decode cX11_isNamed 108 = .ok (.iinc 4 1, 3) := by decide +kernel
theorem dX11_isNamed_111 : decode cX11_isNamed 111 = .ok (.goto (-106), 3) := by decide +kernel
theorem dX11_isNamed_114 : decode cX11_isNamed 114 = .ok (.iload_n 3, 1) := by decide +kernel
theorem dX11_isNamed_115 : decode cX11_isNamed 115 = .ok (.ireturn, 1) := by decide +kernel
theorem dX11_found_0 : decode cX11_found 0 = .ok (.aload_n 0, 1) := by decide +kernel
theorem dX11_found_1 : decode cX11_found 1 = .ok (.iconst 0, 1) := by decide +kernel
theorem dX11_found_2 : decode cX11_found 2 = .ok (.putfield 158, 3) := by decide +kernel
theorem dX11_found_5 : decode cX11_found 5 = .ok (.iload_n 1, 1) := by decide +kernel
theorem dX11_found_6 : decode cX11_found 6 = .ok (.ifCond .lt 20, 3) := by decide +kernel
theorem dX11_found_9 : decode cX11_found 9 = .ok (.iload_n 1, 1) := by decide +kernel
theorem dX11_found_10 : decode cX11_found 10 = .ok (.aload_n 0, 1) := by decide +kernel
theorem dX11_found_11 : decode cX11_found 11 = .ok (.getfield 382, 3) := by decide +kernel
theorem dX11_found_14 : decode cX11_found 14 = .ok (.if_icmp .ge 12, 3) := by decide +kernel
theorem dX11_found_17 : decode cX11_found 17 = .ok (.aload_n 0, 1) := by decide +kernel
theorem dX11_found_18 : decode cX11_found 18 = .ok (.getfield 155, 3) := by decide +kernel
theorem dX11_found_21 : decode cX11_found 21 = .ok (.iload_n 1, 1) := by decide +kernel
theorem dX11_found_22 : decode cX11_found 22 = .ok (.iaload, 1) := by decide +kernel
theorem dX11_found_23 : decode cX11_found 23 = .ok (.goto 4, 3) := by decide +kernel
theorem dX11_found_26 : decode cX11_found 26 = .ok (.iconst (-1), 1) := by decide +kernel
theorem dX11_found_27 : decode cX11_found 27 = .ok (.ireturn, 1) := by decide +kernel
theorem dX11_struck_0 : decode cX11_struck 0 = .ok (.aload_n 0, 1) := by decide +kernel
theorem dX11_struck_1 : decode cX11_struck 1 = .ok (.iconst 0, 1) := by decide +kernel
theorem dX11_struck_2 : decode cX11_struck 2 = .ok (.putfield 158, 3) := by decide +kernel
theorem dX11_struck_5 : decode cX11_struck 5 = .ok (.lload_n 1, 1) := by decide +kernel
theorem dX11_struck_6 : decode cX11_struck 6 = .ok (.invokestatic 350, 3) := by decide +kernel
theorem dX11_struck_9 : decode cX11_struck 9 = .ok (.ifCond .eq 10, 3) := by decide +kernel
theorem dX11_struck_12 : decode cX11_struck 12 = .ok (.iload_n 3, 1) := by decide +kernel
theorem dX11_struck_13 : decode cX11_struck 13 = .ok (.invokestatic 176, 3) := by decide +kernel
theorem dX11_struck_16 : decode cX11_struck 16 = .ok (.ifCond .ne 5, 3) := by decide +kernel
theorem dX11_struck_19 : decode cX11_struck 19 = .ok (.iconst (-1), 1) := by decide +kernel
theorem dX11_struck_20 : decode cX11_struck 20 = .ok (.ireturn, 1) := by decide +kernel
theorem dX11_struck_21 : decode cX11_struck 21 = .ok (.iconst 0, 1) := by decide +kernel
theorem dX11_struck_22 : decode cX11_struck 22 = .ok (.istore 4, 2) := by decide +kernel
theorem dX11_struck_24 : decode cX11_struck 24 = .ok (.iconst 0, 1) := by decide +kernel
theorem dX11_struck_25 : decode cX11_struck 25 = .ok (.istore 5, 2) := by decide +kernel
theorem dX11_struck_27 : decode cX11_struck 27 = .ok (.iload 5, 2) := by decide +kernel
theorem dX11_struck_29 : decode cX11_struck 29 = .ok (.aload_n 0, 1) := by decide +kernel
theorem dX11_struck_30 : decode cX11_struck 30 = .ok (.getfield 173, 3) := by decide +kernel
theorem dX11_struck_33 : decode cX11_struck 33 = .ok (.if_icmp .ge 43, 3) := by decide +kernel
theorem dX11_struck_36 : decode cX11_struck 36 = .ok (.iload 4, 2) := by decide +kernel
theorem dX11_struck_38 : decode cX11_struck 38 = .ok (.ifCond .ne 25, 3) := by decide +kernel
theorem dX11_struck_41 : decode cX11_struck 41 = .ok (.aload_n 0, 1) := by decide +kernel
theorem dX11_struck_42 : decode cX11_struck 42 = .ok (.getfield 98, 3) := by decide +kernel
theorem dX11_struck_45 : decode cX11_struck 45 = .ok (.iload 5, 2) := by decide +kernel
theorem dX11_struck_47 : decode cX11_struck 47 = .ok (.laload, 1) := by decide +kernel
theorem dX11_struck_48 : decode cX11_struck 48 = .ok (.lload_n 1, 1) := by decide +kernel
theorem dX11_struck_49 : decode cX11_struck 49 = .ok (.lcmp, 1) := by decide +kernel
theorem dX11_struck_50 : decode cX11_struck 50 = .ok (.ifCond .ne 17, 3) := by decide +kernel
theorem dX11_struck_53 : decode cX11_struck 53 = .ok (.aload_n 0, 1) := by decide +kernel
theorem dX11_struck_54 : decode cX11_struck 54 = .ok (.iload 5, 2) := by decide +kernel
theorem dX11_struck_56 : decode cX11_struck 56 = .ok (.iload_n 3, 1) := by decide +kernel
theorem dX11_struck_57 : decode cX11_struck 57 = .ok (.invokevirtual 368, 3) := by decide +kernel
theorem dX11_struck_60 : decode cX11_struck 60 = .ok (.ifCond .eq 7, 3) := by decide +kernel
theorem dX11_struck_63 : decode cX11_struck 63 = .ok (.iconst 1, 1) := by decide +kernel
theorem dX11_struck_64 : decode cX11_struck 64 = .ok (.goto 4, 3) := by decide +kernel
theorem dX11_struck_67 : decode cX11_struck 67 = .ok (.iconst 0, 1) := by decide +kernel
theorem dX11_struck_68 : decode cX11_struck 68 = .ok (.istore 4, 2) := by decide +kernel
theorem dX11_struck_70 : decode cX11_struck 70 = .ok (.iinc 5 1, 3) := by decide +kernel
theorem dX11_struck_73 : decode cX11_struck 73 = .ok (.goto (-46), 3) := by decide +kernel
theorem dX11_struck_76 : decode cX11_struck 76 = .ok (.iload 4, 2) := by decide +kernel
theorem dX11_struck_78 : decode cX11_struck 78 = .ok (.ifCond .eq 7, 3) := by decide +kernel
theorem dX11_struck_81 : decode cX11_struck 81 = .ok (.iconst 1, 1) := by decide +kernel
theorem dX11_struck_82 : decode cX11_struck 82 = .ok (.goto 4, 3) := by decide +kernel
theorem dX11_struck_85 : decode cX11_struck 85 = .ok (.iconst 0, 1) := by decide +kernel
theorem dX11_struck_86 : decode cX11_struck 86 = .ok (.ireturn, 1) := by decide +kernel
theorem dX11_count_0 : decode cX11_count 0 = .ok (.aload_n 0, 1) := by decide +kernel
theorem dX11_count_1 : decode cX11_count 1 = .ok (.iconst 0, 1) := by decide +kernel
theorem dX11_count_2 : decode cX11_count 2 = .ok (.putfield 158, 3) := by decide +kernel
theorem dX11_count_5 : decode cX11_count 5 = .ok (.iload_n 1, 1) := by decide +kernel
theorem dX11_count_6 : decode cX11_count 6 = .ok (.tableswitch 77 0 6 #[42, 47, 52, 57, 62, 67, 72], 42) := by decide +kernel
theorem dX11_count_48 : decode cX11_count 48 = .ok (.aload_n 0, 1) := by decide +kernel
theorem dX11_count_49 : decode cX11_count 49 = .ok (.getfield 167, 3) := by decide +kernel
theorem dX11_count_52 : decode cX11_count 52 = .ok (.ireturn, 1) := by decide +kernel
theorem dX11_count_53 : decode cX11_count 53 = .ok (.aload_n 0, 1) := by decide +kernel
theorem dX11_count_54 : decode cX11_count 54 = .ok (.getfield 170, 3) := by decide +kernel
theorem dX11_count_57 : decode cX11_count 57 = .ok (.ireturn, 1) := by decide +kernel
theorem dX11_count_58 : decode cX11_count 58 = .ok (.aload_n 0, 1) := by decide +kernel
theorem dX11_count_59 : decode cX11_count 59 = .ok (.getfield 173, 3) := by decide +kernel
theorem dX11_count_62 : decode cX11_count 62 = .ok (.ireturn, 1) := by decide +kernel
theorem dX11_count_63 : decode cX11_count 63 = .ok (.aload_n 0, 1) := by decide +kernel
theorem dX11_count_64 : decode cX11_count 64 = .ok (.getfield 357, 3) := by decide +kernel
theorem dX11_count_67 : decode cX11_count 67 = .ok (.ireturn, 1) := by decide +kernel
theorem dX11_count_68 : decode cX11_count 68 = .ok (.aload_n 0, 1) := by decide +kernel
theorem dX11_count_69 : decode cX11_count 69 = .ok (.invokevirtual 362, 3) := by decide +kernel
theorem dX11_count_72 : decode cX11_count 72 = .ok (.ireturn, 1) := by decide +kernel
theorem dX11_count_73 : decode cX11_count 73 = .ok (.aload_n 0, 1) := by decide +kernel
theorem dX11_count_74 : decode cX11_count 74 = .ok (.getfield 164, 3) := by decide +kernel
theorem dX11_count_77 : decode cX11_count 77 = .ok (.ireturn, 1) := by decide +kernel
theorem dX11_count_78 : decode cX11_count 78 = .ok (.aload_n 0, 1) := by decide +kernel
theorem dX11_count_79 : decode cX11_count 79 = .ok (.getfield 264, 3) := by decide +kernel
theorem dX11_count_82 : decode cX11_count 82 = .ok (.ireturn, 1) := by decide +kernel
theorem dX11_count_83 : decode cX11_count 83 = .ok (.iconst (-1), 1) := by decide +kernel
theorem dX11_count_84 : decode cX11_count 84 = .ok (.ireturn, 1) := by decide +kernel
theorem dX11_trouble_0 : decode cX11_trouble 0 = .ok (.aload_n 0, 1) := by decide +kernel
theorem dX11_trouble_1 : decode cX11_trouble 1 = .ok (.iconst 0, 1) := by decide +kernel
theorem dX11_trouble_2 : decode cX11_trouble 2 = .ok (.putfield 158, 3) := by decide +kernel
theorem dX11_trouble_5 : decode cX11_trouble 5 = .ok (.aload_n 0, 1) := by decide +kernel
theorem dX11_trouble_6 : decode cX11_trouble 6 = .ok (.getfield 161, 3) := by decide +kernel
theorem dX11_trouble_9 : decode cX11_trouble 9 = .ok (.ireturn, 1) := by decide +kernel
theorem dJ9_max_7cf53_0 : decode cJ9_max_7cf53 0 = .ok (.iload_n 0, 1) := by decide +kernel
theorem dJ9_max_7cf53_1 : decode cJ9_max_7cf53 1 = .ok (.iload_n 1, 1) := by decide +kernel
theorem dJ9_max_7cf53_2 : decode cJ9_max_7cf53 2 = .ok (.if_icmp .lt 7, 3) := by decide +kernel
theorem dJ9_max_7cf53_5 : decode cJ9_max_7cf53 5 = .ok (.iload_n 0, 1) := by decide +kernel
theorem dJ9_max_7cf53_6 : decode cJ9_max_7cf53 6 = .ok (.goto 4, 3) := by decide +kernel
theorem dJ9_max_7cf53_9 : decode cJ9_max_7cf53 9 = .ok (.iload_n 1, 1) := by decide +kernel
theorem dJ9_max_7cf53_10 : decode cJ9_max_7cf53 10 = .ok (.ireturn, 1) := by decide +kernel
theorem dJ9_min_7cf53_0 : decode cJ9_min_7cf53 0 = .ok (.iload_n 0, 1) := by decide +kernel
theorem dJ9_min_7cf53_1 : decode cJ9_min_7cf53 1 = .ok (.iload_n 1, 1) := by decide +kernel
theorem dJ9_min_7cf53_2 : decode cJ9_min_7cf53 2 = .ok (.if_icmp .gt 7, 3) := by decide +kernel
theorem dJ9_min_7cf53_5 : decode cJ9_min_7cf53 5 = .ok (.iload_n 0, 1) := by decide +kernel
theorem dJ9_min_7cf53_6 : decode cJ9_min_7cf53 6 = .ok (.goto 4, 3) := by decide +kernel
theorem dJ9_min_7cf53_9 : decode cJ9_min_7cf53 9 = .ok (.iload_n 1, 1) := by decide +kernel
theorem dJ9_min_7cf53_10 : decode cJ9_min_7cf53 10 = .ok (.ireturn, 1) := by decide +kernel
theorem dJ0_length_8abf5_0 : decode cJ0_length_8abf5 0 = .ok (.aload_n 0, 1) := by decide +kernel
theorem dJ0_length_8abf5_1 : decode cJ0_length_8abf5 1 = .ok (.getfield 9, 3) := by decide +kernel
theorem dJ0_length_8abf5_4 : decode cJ0_length_8abf5 4 = .ok (.arraylength, 1) := by decide +kernel
theorem dJ0_length_8abf5_5 : decode cJ0_length_8abf5 5 = .ok (.aload_n 0, 1) := by decide +kernel
theorem dJ0_length_8abf5_6 : decode cJ0_length_8abf5 6 = .ok (.invokevirtual 335, 3) := by decide +kernel
theorem dJ0_length_8abf5_9 : decode cJ0_length_8abf5 9 = .ok (.ishr, 1) := by decide +kernel
theorem dJ0_length_8abf5_10 : decode cJ0_length_8abf5 10 = .ok (.ireturn, 1) := by decide +kernel
theorem dJ0_charAt_5068e_0 : decode cJ0_charAt_5068e 0 = .ok (.aload_n 0, 1) := by decide +kernel
theorem dJ0_charAt_5068e_1 : decode cJ0_charAt_5068e 1 = .ok (.invokevirtual 492, 3) := by decide +kernel
theorem dJ0_charAt_5068e_4 : decode cJ0_charAt_5068e 4 = .ok (.ifCond .eq 12, 3) := by decide +kernel
theorem dJ0_charAt_5068e_7 : decode cJ0_charAt_5068e 7 = .ok (.aload_n 0, 1) := by decide +kernel
theorem dJ0_charAt_5068e_8 : decode cJ0_charAt_5068e 8 = .ok (.getfield 9, 3) := by decide +kernel
theorem dJ0_charAt_5068e_11 : decode cJ0_charAt_5068e 11 = .ok (.iload_n 1, 1) := by decide +kernel
theorem dJ0_charAt_5068e_12 : decode cJ0_charAt_5068e 12 = .ok (.invokestatic 495, 3) := by decide +kernel
theorem dJ0_charAt_5068e_15 : decode cJ0_charAt_5068e 15 = .ok (.ireturn, 1) := by decide +kernel
theorem dJ0_charAt_5068e_16 : decode cJ0_charAt_5068e 16 = .ok (.aload_n 0, 1) := by decide +kernel
theorem dJ0_charAt_5068e_17 : decode cJ0_charAt_5068e 17 = .ok (.getfield 9, 3) := by decide +kernel
theorem dJ0_charAt_5068e_20 : decode cJ0_charAt_5068e 20 = .ok (.iload_n 1, 1) := by decide +kernel
theorem dJ0_charAt_5068e_21 : decode cJ0_charAt_5068e 21 = .ok (.invokestatic 498, 3) := by decide +kernel
theorem dJ0_charAt_5068e_24 : decode cJ0_charAt_5068e 24 = .ok (.ireturn, 1) := by decide +kernel
theorem dJ0_coder_7d493_0 : decode cJ0_coder_7d493 0 = .ok (.getstatic 38, 3) := by decide +kernel
theorem dJ0_coder_7d493_3 : decode cJ0_coder_7d493 3 = .ok (.ifCond .eq 10, 3) := by decide +kernel
theorem dJ0_coder_7d493_6 : decode cJ0_coder_7d493 6 = .ok (.aload_n 0, 1) := by decide +kernel
theorem dJ0_coder_7d493_7 : decode cJ0_coder_7d493 7 = .ok (.getfield 15, 3) := by decide +kernel
theorem dJ0_coder_7d493_10 : decode cJ0_coder_7d493 10 = .ok (.goto 4, 3) := by decide +kernel
theorem dJ0_coder_7d493_13 : decode cJ0_coder_7d493 13 = .ok (.iconst 1, 1) := by decide +kernel
theorem dJ0_coder_7d493_14 : decode cJ0_coder_7d493 14 = .ok (.ireturn, 1) := by decide +kernel
theorem dJ0_isLatin1_aae02_0 : decode cJ0_isLatin1_aae02 0 = .ok (.getstatic 38, 3) := by decide +kernel
theorem dJ0_isLatin1_aae02_3 : decode cJ0_isLatin1_aae02 3 = .ok (.ifCond .eq 14, 3) := by decide +kernel
theorem dJ0_isLatin1_aae02_6 : decode cJ0_isLatin1_aae02 6 = .ok (.aload_n 0, 1) := by decide +kernel
theorem dJ0_isLatin1_aae02_7 : decode cJ0_isLatin1_aae02 7 = .ok (.getfield 15, 3) := by decide +kernel
theorem dJ0_isLatin1_aae02_10 : decode cJ0_isLatin1_aae02 10 = .ok (.ifCond .ne 7, 3) := by decide +kernel
theorem dJ0_isLatin1_aae02_13 : decode cJ0_isLatin1_aae02 13 = .ok (.iconst 1, 1) := by decide +kernel
theorem dJ0_isLatin1_aae02_14 : decode cJ0_isLatin1_aae02 14 = .ok (.goto 4, 3) := by decide +kernel
theorem dJ0_isLatin1_aae02_17 : decode cJ0_isLatin1_aae02 17 = .ok (.iconst 0, 1) := by decide +kernel
theorem dJ0_isLatin1_aae02_18 : decode cJ0_isLatin1_aae02 18 = .ok (.ireturn, 1) := by decide +kernel
theorem dJ0_checkIndex_df160_0 : decode cJ0_checkIndex_df160 0 = .ok (.iload_n 0, 1) := by decide +kernel
theorem dJ0_checkIndex_df160_1 : decode cJ0_checkIndex_df160 1 = .ok (.iload_n 1, 1) := by decide +kernel
theorem dJ0_checkIndex_df160_2 : decode cJ0_checkIndex_df160 2 = .ok (.getstatic 1053, 3) := by decide +kernel
theorem dJ0_checkIndex_df160_5 : decode cJ0_checkIndex_df160 5 = .ok (.invokestatic 1059, 3) := by decide +kernel
theorem dJ0_checkIndex_df160_8 : decode cJ0_checkIndex_df160 8 = .ok (.pop, 1) := by decide +kernel
theorem dJ0_checkIndex_df160_9 : decode cJ0_checkIndex_df160 9 = .ok (.return_, 1) := by decide +kernel
theorem dJ1_charAt_3b067_0 : decode cJ1_charAt_3b067 0 = .ok (.iload_n 1, 1) := by decide +kernel
theorem dJ1_charAt_3b067_1 : decode cJ1_charAt_3b067 1 = .ok (.aload_n 0, 1) := by decide +kernel
theorem dJ1_charAt_3b067_2 : decode cJ1_charAt_3b067 2 = .ok (.arraylength, 1) := by decide +kernel
theorem dJ1_charAt_3b067_3 : decode cJ1_charAt_3b067 3 = .ok (.invokestatic 9, 3) := by decide +kernel
theorem dJ1_charAt_3b067_6 : decode cJ1_charAt_3b067 6 = .ok (.aload_n 0, 1) := by decide +kernel
theorem dJ1_charAt_3b067_7 : decode cJ1_charAt_3b067 7 = .ok (.iload_n 1, 1) := by decide +kernel
theorem dJ1_charAt_3b067_8 : decode cJ1_charAt_3b067 8 = .ok (.baload, 1) := by decide +kernel
theorem dJ1_charAt_3b067_9 : decode cJ1_charAt_3b067 9 = .ok (.sipush 255, 3) := by decide +kernel
theorem dJ1_charAt_3b067_12 : decode cJ1_charAt_3b067 12 = .ok (.iand, 1) := by decide +kernel
theorem dJ1_charAt_3b067_13 : decode cJ1_charAt_3b067 13 = .ok (.i2c, 1) := by decide +kernel
theorem dJ1_charAt_3b067_14 : decode cJ1_charAt_3b067 14 = .ok (.ireturn, 1) := by decide +kernel
theorem dJ2_getChar_3b067_0 : decode cJ2_getChar_3b067 0 = .ok (.getstatic 44, 3) := by decide +kernel
theorem dJ2_getChar_3b067_3 : decode cJ2_getChar_3b067 3 = .ok (.ifCond .ne 25, 3) := by decide +kernel
theorem dJ2_getChar_3b067_6 : decode cJ2_getChar_3b067 6 = .ok (.iload_n 1, 1) := by decide +kernel
theorem dJ2_getChar_3b067_7 : decode cJ2_getChar_3b067 7 = .ok (.ifCond .lt 11, 3) := by decide +kernel
theorem dJ2_getChar_3b067_10 : decode cJ2_getChar_3b067 10 = .ok (.iload_n 1, 1) := by decide +kernel
theorem dJ2_getChar_3b067_11 : decode cJ2_getChar_3b067 11 = .ok (.aload_n 0, 1) := by decide +kernel
theorem dJ2_getChar_3b067_12 : decode cJ2_getChar_3b067 12 = .ok (.invokestatic 48, 3) := by decide +kernel
theorem dJ2_getChar_3b067_15 : decode cJ2_getChar_3b067 15 = .ok (.if_icmp .lt 13, 3) := by decide +kernel
theorem dJ2_getChar_3b067_18 : decode cJ2_getChar_3b067 18 = .ok (.new 52, 3) := by decide +kernel
theorem dJ2_getChar_3b067_21 : decode cJ2_getChar_3b067 21 = .ok (.dup, 1) := by decide +kernel
theorem dJ2_getChar_3b067_22 : decode cJ2_getChar_3b067 22 = .ok (.ldc 54, 2) := by decide +kernel
theorem dJ2_getChar_3b067_24 : decode cJ2_getChar_3b067 24 = .ok (.invokespecial 56, 3) := by decide +kernel
theorem dJ2_getChar_3b067_27 : decode cJ2_getChar_3b067 27 = .ok (.athrow, 1) := by decide +kernel
theorem dJ2_getChar_3b067_28 : decode cJ2_getChar_3b067 28 = .ok (.iload_n 1, 1) := by decide +kernel
theorem dJ2_getChar_3b067_29 : decode cJ2_getChar_3b067 29 = .ok (.iconst 1, 1) := by decide +kernel
theorem dJ2_getChar_3b067_30 : decode cJ2_getChar_3b067 30 = .ok (.ishl, 1) := by decide +kernel
theorem dJ2_getChar_3b067_31 : decode cJ2_getChar_3b067 31 = .ok (.istore_n 1, 1) := by decide +kernel
theorem dJ2_getChar_3b067_32 : decode cJ2_getChar_3b067 32 = .ok (.aload_n 0, 1) := by decide +kernel
theorem dJ2_getChar_3b067_33 : decode cJ2_getChar_3b067 33 = .ok (.iload_n 1, 1) := by decide +kernel
theorem dJ2_getChar_3b067_34 : decode cJ2_getChar_3b067 34 = .ok (.iinc 1 1, 3) := by decide +kernel
theorem dJ2_getChar_3b067_37 : decode cJ2_getChar_3b067 37 = .ok (.baload, 1) := by decide +kernel
theorem dJ2_getChar_3b067_38 : decode cJ2_getChar_3b067 38 = .ok (.sipush 255, 3) := by decide +kernel
theorem dJ2_getChar_3b067_41 : decode cJ2_getChar_3b067 41 = .ok (.iand, 1) := by decide +kernel
theorem dJ2_getChar_3b067_42 : decode cJ2_getChar_3b067 42 = .ok (.getstatic 59, 3) := by decide +kernel
theorem dJ2_getChar_3b067_45 : decode cJ2_getChar_3b067 45 = .ok (.ishl, 1) := by decide +kernel
theorem dJ2_getChar_3b067_46 : decode cJ2_getChar_3b067 46 = .ok (.aload_n 0, 1) := by decide +kernel
theorem dJ2_getChar_3b067_47 : decode cJ2_getChar_3b067 47 = .ok (.iload_n 1, 1) := by decide +kernel
theorem dJ2_getChar_3b067_48 : decode cJ2_getChar_3b067 48 = .ok (.baload, 1) := by decide +kernel
theorem dJ2_getChar_3b067_49 : decode cJ2_getChar_3b067 49 = .ok (.sipush 255, 3) := by decide +kernel
theorem dJ2_getChar_3b067_52 : decode cJ2_getChar_3b067 52 = .ok (.iand, 1) := by decide +kernel
theorem dJ2_getChar_3b067_53 : decode cJ2_getChar_3b067 53 = .ok (.getstatic 63, 3) := by decide +kernel
theorem dJ2_getChar_3b067_56 : decode cJ2_getChar_3b067 56 = .ok (.ishl, 1) := by decide +kernel
theorem dJ2_getChar_3b067_57 : decode cJ2_getChar_3b067 57 = .ok (.ior, 1) := by decide +kernel
theorem dJ2_getChar_3b067_58 : decode cJ2_getChar_3b067 58 = .ok (.i2c, 1) := by decide +kernel
theorem dJ2_getChar_3b067_59 : decode cJ2_getChar_3b067 59 = .ok (.ireturn, 1) := by decide +kernel
theorem dJ2_length_9d52b_0 : decode cJ2_length_9d52b 0 = .ok (.aload_n 0, 1) := by decide +kernel
theorem dJ2_length_9d52b_1 : decode cJ2_length_9d52b 1 = .ok (.arraylength, 1) := by decide +kernel
theorem dJ2_length_9d52b_2 : decode cJ2_length_9d52b 2 = .ok (.iconst 1, 1) := by decide +kernel
theorem dJ2_length_9d52b_3 : decode cJ2_length_9d52b 3 = .ok (.ishr, 1) := by decide +kernel
theorem dJ2_length_9d52b_4 : decode cJ2_length_9d52b 4 = .ok (.ireturn, 1) := by decide +kernel
theorem dJ2_charAt_3b067_0 : decode cJ2_charAt_3b067 0 = .ok (.iload_n 1, 1) := by decide +kernel
theorem dJ2_charAt_3b067_1 : decode cJ2_charAt_3b067 1 = .ok (.aload_n 0, 1) := by decide +kernel
theorem dJ2_charAt_3b067_2 : decode cJ2_charAt_3b067 2 = .ok (.invokestatic 67, 3) := by decide +kernel
theorem dJ2_charAt_3b067_5 : decode cJ2_charAt_3b067 5 = .ok (.aload_n 0, 1) := by decide +kernel
theorem dJ2_charAt_3b067_6 : decode cJ2_charAt_3b067 6 = .ok (.iload_n 1, 1) := by decide +kernel
theorem dJ2_charAt_3b067_7 : decode cJ2_charAt_3b067 7 = .ok (.invokestatic 71, 3) := by decide +kernel
theorem dJ2_charAt_3b067_10 : decode cJ2_charAt_3b067 10 = .ok (.ireturn, 1) := by decide +kernel
theorem dJ2_checkIndex_2214a_0 : decode cJ2_checkIndex_2214a 0 = .ok (.iload_n 0, 1) := by decide +kernel
theorem dJ2_checkIndex_2214a_1 : decode cJ2_checkIndex_2214a 1 = .ok (.aload_n 1, 1) := by decide +kernel
theorem dJ2_checkIndex_2214a_2 : decode cJ2_checkIndex_2214a 2 = .ok (.invokestatic 48, 3) := by decide +kernel
theorem dJ2_checkIndex_2214a_5 : decode cJ2_checkIndex_2214a 5 = .ok (.invokestatic 414, 3) := by decide +kernel
theorem dJ2_checkIndex_2214a_8 : decode cJ2_checkIndex_2214a 8 = .ok (.return_, 1) := by decide +kernel
theorem dJ7_fill_d0a16_0 : decode cJ7_fill_d0a16 0 = .ok (.iconst 0, 1) := by decide +kernel
theorem dJ7_fill_d0a16_1 : decode cJ7_fill_d0a16 1 = .ok (.istore_n 3, 1) := by decide +kernel
theorem dJ7_fill_d0a16_2 : decode cJ7_fill_d0a16 2 = .ok (.aload_n 0, 1) := by decide +kernel
theorem dJ7_fill_d0a16_3 : decode cJ7_fill_d0a16 3 = .ok (.arraylength, 1) := by decide +kernel
theorem dJ7_fill_d0a16_4 : decode cJ7_fill_d0a16 4 = .ok (.istore 4, 2) := by decide +kernel
theorem dJ7_fill_d0a16_6 : decode cJ7_fill_d0a16 6 = .ok (.iload_n 3, 1) := by decide +kernel
theorem dJ7_fill_d0a16_7 : decode cJ7_fill_d0a16 7 = .ok (.iload 4, 2) := by decide +kernel
theorem dJ7_fill_d0a16_9 : decode cJ7_fill_d0a16 9 = .ok (.if_icmp .ge 13, 3) := by decide +kernel
theorem dJ7_fill_d0a16_12 : decode cJ7_fill_d0a16 12 = .ok (.aload_n 0, 1) := by decide +kernel
theorem dJ7_fill_d0a16_13 : decode cJ7_fill_d0a16 13 = .ok (.iload_n 3, 1) := by decide +kernel
theorem dJ7_fill_d0a16_14 : decode cJ7_fill_d0a16 14 = .ok (.lload_n 1, 1) := by decide +kernel
theorem dJ7_fill_d0a16_15 : decode cJ7_fill_d0a16 15 = .ok (.lastore, 1) := by decide +kernel
theorem dJ7_fill_d0a16_16 : decode cJ7_fill_d0a16 16 = .ok (.iinc 3 1, 3) := by decide +kernel
theorem dJ7_fill_d0a16_19 : decode cJ7_fill_d0a16 19 = .ok (.goto (-13), 3) := by decide +kernel
theorem dJ7_fill_d0a16_22 : decode cJ7_fill_d0a16 22 = .ok (.return_, 1) := by decide +kernel
theorem dJ3_checkIndex_8e157_0 : decode cJ3_checkIndex_8e157 0 = .ok (.iload_n 0, 1) := by decide +kernel
theorem dJ3_checkIndex_8e157_1 : decode cJ3_checkIndex_8e157 1 = .ok (.ifCond .lt 8, 3) := by decide +kernel
theorem dJ3_checkIndex_8e157_4 : decode cJ3_checkIndex_8e157 4 = .ok (.iload_n 0, 1) := by decide +kernel
theorem dJ3_checkIndex_8e157_5 : decode cJ3_checkIndex_8e157 5 = .ok (.iload_n 1, 1) := by decide +kernel
theorem dJ3_checkIndex_8e157_6 : decode cJ3_checkIndex_8e157 6 = .ok (.if_icmp .lt 10, 3) := by decide +kernel
theorem dJ3_checkIndex_8e157_9 : decode cJ3_checkIndex_8e157 9 = .ok (.aload_n 2, 1) := by decide +kernel
theorem dJ3_checkIndex_8e157_10 : decode cJ3_checkIndex_8e157 10 = .ok (.iload_n 0, 1) := by decide +kernel
theorem dJ3_checkIndex_8e157_11 : decode cJ3_checkIndex_8e157 11 = .ok (.iload_n 1, 1) := by decide +kernel
theorem dJ3_checkIndex_8e157_12 : decode cJ3_checkIndex_8e157 12 = .ok (.invokestatic 95, 3) := by decide +kernel
theorem dJ3_checkIndex_8e157_15 : decode cJ3_checkIndex_8e157 15 = .ok (.athrow, 1) := by decide +kernel
theorem dJ3_checkIndex_8e157_16 : decode cJ3_checkIndex_8e157 16 = .ok (.iload_n 0, 1) := by decide +kernel
theorem dJ3_checkIndex_8e157_17 : decode cJ3_checkIndex_8e157 17 = .ok (.ireturn, 1) := by decide +kernel

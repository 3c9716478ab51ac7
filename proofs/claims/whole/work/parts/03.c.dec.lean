theorem dX11_init_0 : decode cX11_init 0 = .ok (.aload_n 0, 1) := by decide +kernel
theorem dX11_init_1 : decode cX11_init 1 = .ok (.invokespecial 1, 3) := by decide +kernel
theorem dX11_init_4 : decode cX11_init 4 = .ok (.aload_n 0, 1) := by decide +kernel
theorem dX11_init_5 : decode cX11_init 5 = .ok (.sipush 1800, 3) := by decide +kernel
theorem dX11_init_8 : decode cX11_init 8 = .ok (.newarray .int, 2) := by decide +kernel
theorem dX11_init_10 : decode cX11_init 10 = .ok (.putfield 7, 3) := by decide +kernel
theorem dX11_init_13 : decode cX11_init 13 = .ok (.aload_n 0, 1) := by decide +kernel
theorem dX11_init_14 : decode cX11_init 14 = .ok (.iconst 0, 1) := by decide +kernel
theorem dX11_init_15 : decode cX11_init 15 = .ok (.putfield 13, 3) := by decide +kernel
theorem dX11_init_18 : decode cX11_init 18 = .ok (.aload_n 0, 1) := by decide +kernel
theorem dX11_init_19 : decode cX11_init 19 = .ok (.iconst 0, 1) := by decide +kernel
theorem dX11_init_20 : decode cX11_init 20 = .ok (.putfield 17, 3) := by decide +kernel
theorem dX11_init_23 : decode cX11_init 23 = .ok (.aload_n 0, 1) := by decide +kernel
theorem dX11_init_24 : decode cX11_init 24 = .ok (.iconst 0, 1) := by decide +kernel
theorem dX11_init_25 : decode cX11_init 25 = .ok (.putfield 20, 3) := by decide +kernel
theorem dX11_init_28 : decode cX11_init 28 = .ok (.aload_n 0, 1) := by decide +kernel
theorem dX11_init_29 : decode cX11_init 29 = .ok (.iconst 0, 1) := by decide +kernel
theorem dX11_init_30 : decode cX11_init 30 = .ok (.putfield 23, 3) := by decide +kernel
theorem dX11_init_33 : decode cX11_init 33 = .ok (.aload_n 0, 1) := by decide +kernel
theorem dX11_init_34 : decode cX11_init 34 = .ok (.iconst 0, 1) := by decide +kernel
theorem dX11_init_35 : decode cX11_init 35 = .ok (.putfield 26, 3) := by decide +kernel
theorem dX11_init_38 : decode cX11_init 38 = .ok (.aload_n 0, 1) := by decide +kernel
theorem dX11_init_39 : decode cX11_init 39 = .ok (.iconst 0, 1) := by decide +kernel
theorem dX11_init_40 : decode cX11_init 40 = .ok (.putfield 29, 3) := by decide +kernel
theorem dX11_init_43 : decode cX11_init 43 = .ok (.aload_n 0, 1) := by decide +kernel
theorem dX11_init_44 : decode cX11_init 44 = .ok (.lconst 0, 1) := by decide +kernel
theorem dX11_init_45 : decode cX11_init 45 = .ok (.putfield 32, 3) := by decide +kernel
theorem dX11_init_48 : decode cX11_init 48 = .ok (.aload_n 0, 1) := by decide +kernel
theorem dX11_init_49 : decode cX11_init 49 = .ok (.iconst 0, 1) := by decide +kernel
theorem dX11_init_50 : decode cX11_init 50 = .ok (.putfield 36, 3) := by decide +kernel
theorem dX11_init_53 : decode cX11_init 53 = .ok (.aload_n 0, 1) := by decide +kernel
theorem dX11_init_54 : decode cX11_init 54 = .ok (.iconst (-1), 1) := by decide +kernel
theorem dX11_init_55 : decode cX11_init 55 = .ok (.putfield 39, 3) := by decide +kernel
theorem dX11_init_58 : decode cX11_init 58 = .ok (.aload_n 0, 1) := by decide +kernel
theorem dX11_init_59 : decode cX11_init 59 = .ok (.iconst 0, 1) := by decide +kernel
theorem dX11_init_60 : decode cX11_init 60 = .ok (.putfield 42, 3) := by decide +kernel
theorem dX11_init_63 : decode cX11_init 63 = .ok (.aload_n 0, 1) := by decide +kernel
theorem dX11_init_64 : decode cX11_init 64 = .ok (.iconst (-1), 1) := by decide +kernel
theorem dX11_init_65 : decode cX11_init 65 = .ok (.putfield 45, 3) := by decide +kernel
theorem dX11_init_68 : decode cX11_init 68 = .ok (.aload_n 0, 1) := by decide +kernel
theorem dX11_init_69 : decode cX11_init 69 = .ok (.iconst (-1), 1) := by decide +kernel
theorem dX11_init_70 : decode cX11_init 70 = .ok (.putfield 48, 3) := by decide +kernel
theorem dX11_init_73 : decode cX11_init 73 = .ok (.aload_n 0, 1) := by decide +kernel
theorem dX11_init_74 : decode cX11_init 74 = .ok (.iconst 0, 1) := by decide +kernel
theorem dX11_init_75 : decode cX11_init 75 = .ok (.putfield 51, 3) := by decide +kernel
theorem dX11_init_78 : decode cX11_init 78 = .ok (.aload_n 0, 1) := by decide +kernel
theorem dX11_init_79 : decode cX11_init 79 = .ok (.iconst 2, 1) := by decide +kernel
theorem dX11_init_80 : decode cX11_init 80 = .ok (.newarray .int, 2) := by decide +kernel
theorem dX11_init_82 : decode cX11_init 82 = .ok (.putfield 54, 3) := by decide +kernel
theorem dX11_init_85 : decode cX11_init 85 = .ok (.aload_n 0, 1) := by decide +kernel
theorem dX11_init_86 : decode cX11_init 86 = .ok (.iconst 2, 1) := by decide +kernel
theorem dX11_init_87 : decode cX11_init 87 = .ok (.newarray .int, 2) := by decide +kernel
theorem dX11_init_89 : decode cX11_init 89 = .ok (.putfield 57, 3) := by decide +kernel
theorem dX11_init_92 : decode cX11_init 92 = .ok (.aload_n 0, 1) := by decide +kernel
theorem dX11_init_93 : decode cX11_init 93 = .ok (.bipush 72, 2) := by decide +kernel
theorem dX11_init_95 : decode cX11_init 95 = .ok (.newarray .int, 2) := by decide +kernel
theorem dX11_init_97 : decode cX11_init 97 = .ok (.putfield 60, 3) := by decide +kernel
theorem dX11_init_100 : decode cX11_init 100 = .ok (.aload_n 0, 1) := by decide +kernel
theorem dX11_init_101 : decode cX11_init 101 = .ok (.bipush 72, 2) := by decide +kernel
theorem dX11_init_103 : decode cX11_init 103 = .ok (.newarray .int, 2) := by decide +kernel
theorem dX11_init_105 : decode cX11_init 105 = .ok (.putfield 63, 3) := by decide +kernel
theorem dX11_init_108 : decode cX11_init 108 = .ok (.aload_n 0, 1) := by decide +kernel
theorem dX11_init_109 : decode cX11_init 109 = .ok (.bipush 72, 2) := by decide +kernel
theorem dX11_init_111 : decode cX11_init 111 = .ok (.newarray .int, 2) := by decide +kernel
theorem dX11_init_113 : decode cX11_init 113 = .ok (.putfield 66, 3) := by decide +kernel
theorem dX11_init_116 : decode cX11_init 116 = .ok (.aload_n 0, 1) := by decide +kernel
theorem dX11_init_117 : decode cX11_init 117 = .ok (.iconst 4, 1) := by decide +kernel
theorem dX11_init_118 : decode cX11_init 118 = .ok (.newarray .int, 2) := by decide +kernel
theorem dX11_init_120 : decode cX11_init 120 = .ok (.putfield 69, 3) := by decide +kernel
theorem dX11_init_123 : decode cX11_init 123 = .ok (.aload_n 0, 1) := by decide +kernel
theorem dX11_init_124 : decode cX11_init 124 = .ok (.bipush 6, 2) := by decide +kernel
theorem dX11_init_126 : decode cX11_init 126 = .ok (.newarray .int, 2) := by decide +kernel
theorem dX11_init_128 : decode cX11_init 128 = .ok (.putfield 72, 3) := by decide +kernel
theorem dX11_init_131 : decode cX11_init 131 = .ok (.aload_n 0, 1) := by decide +kernel
theorem dX11_init_132 : decode cX11_init 132 = .ok (.bipush 6, 2) := by decide +kernel
theorem dX11_init_134 : decode cX11_init 134 = .ok (.newarray .int, 2) := by decide +kernel
theorem dX11_init_136 : decode cX11_init 136 = .ok (.putfield 75, 3) := by decide +kernel
theorem dX11_init_139 : decode cX11_init 139 = .ok (.aload_n 0, 1) := by decide +kernel
theorem dX11_init_140 : decode cX11_init 140 = .ok (.sipush 3200, 3) := by decide +kernel
theorem dX11_init_143 : decode cX11_init 143 = .ok (.newarray .int, 2) := by decide +kernel
theorem dX11_init_145 : decode cX11_init 145 = .ok (.putfield 78, 3) := by decide +kernel
theorem dX11_init_148 : decode cX11_init 148 = .ok (.aload_n 0, 1) := by decide +kernel
theorem dX11_init_149 : decode cX11_init 149 = .ok (.sipush 3200, 3) := by decide +kernel
theorem dX11_init_152 : decode cX11_init 152 = .ok (.newarray .int, 2) := by decide +kernel
theorem dX11_init_154 : decode cX11_init 154 = .ok (.putfield 81, 3) := by decide +kernel
theorem dX11_init_157 : decode cX11_init 157 = .ok (.aload_n 0, 1) := by decide +kernel
theorem dX11_init_158 : decode cX11_init 158 = .ok (.bipush 12, 2) := by decide +kernel
theorem dX11_init_160 : decode cX11_init 160 = .ok (.newarray .long, 2) := by decide +kernel
theorem dX11_init_162 : decode cX11_init 162 = .ok (.putfield 84, 3) := by decide +kernel
theorem dX11_init_165 : decode cX11_init 165 = .ok (.aload_n 0, 1) := by decide +kernel
theorem dX11_init_166 : decode cX11_init 166 = .ok (.iconst 0, 1) := by decide +kernel
theorem dX11_init_167 : decode cX11_init 167 = .ok (.putfield 88, 3) := by decide +kernel
theorem dX11_init_170 : decode cX11_init 170 = .ok (.aload_n 0, 1) := by decide +kernel
theorem dX11_init_171 : decode cX11_init 171 = .ok (.iconst 1, 1) := by decide +kernel
theorem dX11_init_172 : decode cX11_init 172 = .ok (.putfield 91, 3) := by decide +kernel
theorem dX11_init_175 : decode cX11_init 175 = .ok (.aload_n 0, 1) := by decide +kernel
theorem dX11_init_176 : decode cX11_init 176 = .ok (.iconst 0, 1) := by decide +kernel
theorem dX11_init_177 : decode cX11_init 177 = .ok (.putfield 94, 3) := by decide +kernel
theorem dX11_init_180 : decode cX11_init 180 = .ok (.aload_n 0, 1) := by decide +kernel
theorem dX11_init_181 : decode cX11_init 181 = .ok (.bipush 20, 2) := by decide +kernel
theorem dX11_init_183 : decode cX11_init 183 = .ok (.newarray .int, 2) := by decide +kernel
theorem dX11_init_185 : decode cX11_init 185 = .ok (.putfield 98, 3) := by decide +kernel
theorem dX11_init_188 : decode cX11_init 188 = .ok (.aload_n 0, 1) := by decide +kernel
theorem dX11_init_189 : decode cX11_init 189 = .ok (.bipush 20, 2) := by decide +kernel
theorem dX11_init_191 : decode cX11_init 191 = .ok (.newarray .int, 2) := by decide +kernel
theorem dX11_init_193 : decode cX11_init 193 = .ok (.putfield 101, 3) := by decide +kernel
theorem dX11_init_196 : decode cX11_init 196 = .ok (.aload_n 0, 1) := by decide +kernel
theorem dX11_init_197 : decode cX11_init 197 = .ok (.bipush 20, 2) := by decide +kernel
theorem dX11_init_199 : decode cX11_init 199 = .ok (.newarray .boolean, 2) := by decide +kernel
theorem dX11_init_201 : decode cX11_init 201 = .ok (.putfield 104, 3) := by decide +kernel
theorem dX11_init_204 : decode cX11_init 204 = .ok (.aload_n 0, 1) := by decide +kernel
theorem dX11_init_205 : decode cX11_init 205 = .ok (.bipush 20, 2) := by decide +kernel
theorem dX11_init_207 : decode cX11_init 207 = .ok (.newarray .int, 2) := by decide +kernel
theorem dX11_init_209 : decode cX11_init 209 = .ok (.putfield 108, 3) := by decide +kernel
theorem dX11_init_212 : decode cX11_init 212 = .ok (.aload_n 0, 1) := by decide +kernel
theorem dX11_init_213 : decode cX11_init 213 = .ok (.bipush 20, 2) := by decide +kernel
theorem dX11_init_215 : decode cX11_init 215 = .ok (.newarray .int, 2) := by decide +kernel
theorem dX11_init_217 : decode cX11_init 217 = .ok (.putfield 111, 3) := by decide +kernel
theorem dX11_init_220 : decode cX11_init 220 = .ok (.aload_n 0, 1) := by decide +kernel
theorem dX11_init_221 : decode cX11_init 221 = .ok (.iconst 0, 1) := by decide +kernel
theorem dX11_init_222 : decode cX11_init 222 = .ok (.putfield 114, 3) := by decide +kernel
theorem dX11_init_225 : decode cX11_init 225 = .ok (.aload_n 0, 1) := by decide +kernel
theorem dX11_init_226 : decode cX11_init 226 = .ok (.iconst 0, 1) := by decide +kernel
theorem dX11_init_227 : decode cX11_init 227 = .ok (.putfield 117, 3) := by decide +kernel
theorem dX11_init_230 : decode cX11_init 230 = .ok (.aload_n 0, 1) := by decide +kernel
theorem dX11_init_231 : decode cX11_init 231 = .ok (.sipush 500, 3) := by decide +kernel
theorem dX11_init_234 : decode cX11_init 234 = .ok (.newarray .int, 2) := by decide +kernel
theorem dX11_init_236 : decode cX11_init 236 = .ok (.putfield 120, 3) := by decide +kernel
theorem dX11_init_239 : decode cX11_init 239 = .ok (.aload_n 0, 1) := by decide +kernel
theorem dX11_init_240 : decode cX11_init 240 = .ok (.iconst 0, 1) := by decide +kernel
theorem dX11_init_241 : decode cX11_init 241 = .ok (.putfield 123, 3) := by decide +kernel
theorem dX11_init_244 : decode cX11_init 244 = .ok (.aload_n 0, 1) := by decide +kernel
theorem dX11_init_245 : decode cX11_init 245 = .ok (.iconst 0, 1) := by decide +kernel
theorem dX11_init_246 : decode cX11_init 246 = .ok (.putfield 126, 3) := by decide +kernel
theorem dX11_init_249 : decode cX11_init 249 = .ok (.aload_n 0, 1) := by decide +kernel
theorem dX11_init_250 : decode cX11_init 250 = .ok (.bipush 6, 2) := by decide +kernel
theorem dX11_init_252 : decode cX11_init 252 = .ok (.newarray .int, 2) := by decide +kernel
theorem dX11_init_254 : decode cX11_init 254 = .ok (.putfield 129, 3) := by decide +kernel
theorem dX11_init_257 : decode cX11_init 257 = .ok (.aload_n 0, 1) := by decide +kernel
theorem dX11_init_258 : decode cX11_init 258 = .ok (.bipush 22, 2) := by decide +kernel
theorem dX11_init_260 : decode cX11_init 260 = .ok (.newarray .int, 2) := by decide +kernel
theorem dX11_init_262 : decode cX11_init 262 = .ok (.putfield 132, 3) := by decide +kernel
theorem dX11_init_265 : decode cX11_init 265 = .ok (.aload_n 0, 1) := by decide +kernel
theorem dX11_init_266 : decode cX11_init 266 = .ok (.sipush 792, 3) := by decide +kernel
theorem dX11_init_269 : decode cX11_init 269 = .ok (.newarray .int, 2) := by decide +kernel
theorem dX11_init_271 : decode cX11_init 271 = .ok (.putfield 135, 3) := by decide +kernel
theorem dX11_init_274 : decode cX11_init 274 = .ok (.aload_n 0, 1) := by decide +kernel
theorem dX11_init_275 : decode cX11_init 275 = .ok (.sipush 792, 3) := by decide +kernel
theorem dX11_init_278 : decode cX11_init 278 = .ok (.newarray .int, 2) := by decide +kernel
theorem dX11_init_280 : decode cX11_init 280 = .ok (.putfield 138, 3) := by decide +kernel
theorem dX11_init_283 : decode cX11_init 283 = .ok (.aload_n 0, 1) := by decide +kernel
theorem dX11_init_284 : decode cX11_init 284 = .ok (.sipush 792, 3) := by decide +kernel
theorem dX11_init_287 : decode cX11_init 287 = .ok (.newarray .int, 2) := by decide +kernel
theorem dX11_init_289 : decode cX11_init 289 = .ok (.putfield 141, 3) := by decide +kernel
theorem dX11_init_292 : decode cX11_init 292 = .ok (.aload_n 0, 1) := by decide +kernel
theorem dX11_init_293 : decode cX11_init 293 = .ok (.bipush 22, 2) := by decide +kernel
theorem dX11_init_295 : decode cX11_init 295 = .ok (.newarray .int, 2) := by decide +kernel
theorem dX11_init_297 : decode cX11_init 297 = .ok (.putfield 144, 3) := by decide +kernel
theorem dX11_init_300 : decode cX11_init 300 = .ok (.aload_n 0, 1) := by decide +kernel
theorem dX11_init_301 : decode cX11_init 301 = .ok (.sipush 3960, 3) := by decide +kernel
theorem dX11_init_304 : decode cX11_init 304 = .ok (.newarray .int, 2) := by decide +kernel
theorem dX11_init_306 : decode cX11_init 306 = .ok (.putfield 147, 3) := by decide +kernel
theorem dX11_init_309 : decode cX11_init 309 = .ok (.aload_n 0, 1) := by decide +kernel
theorem dX11_init_310 : decode cX11_init 310 = .ok (.bipush 22, 2) := by decide +kernel
theorem dX11_init_312 : decode cX11_init 312 = .ok (.newarray .int, 2) := by decide +kernel
theorem dX11_init_314 : decode cX11_init 314 = .ok (.putfield 150, 3) := by decide +kernel
theorem dX11_init_317 : decode cX11_init 317 = .ok (.aload_n 0, 1) := by decide +kernel
theorem dX11_init_318 : decode cX11_init 318 = .ok (.sipush 4400, 3) := by decide +kernel
theorem dX11_init_321 : decode cX11_init 321 = .ok (.newarray .int, 2) := by decide +kernel
theorem dX11_init_323 : decode cX11_init 323 = .ok (.putfield 153, 3) := by decide +kernel
theorem dX11_init_326 : decode cX11_init 326 = .ok (.aload_n 0, 1) := by decide +kernel
theorem dX11_init_327 : decode cX11_init 327 = .ok (.iconst 0, 1) := by decide +kernel
theorem dX11_init_328 : decode cX11_init 328 = .ok (.putfield 156, 3) := by decide +kernel
theorem dX11_init_331 : decode cX11_init 331 = .ok (.aload_n 0, 1) := by decide +kernel
theorem dX11_init_332 : decode cX11_init 332 = .ok (.iconst 0, 1) := by decide +kernel
theorem dX11_init_333 : decode cX11_init 333 = .ok (.putfield 159, 3) := by decide +kernel
theorem dX11_init_336 : decode cX11_init 336 = .ok (.aload_n 0, 1) := by decide +kernel
theorem dX11_init_337 : decode cX11_init 337 = .ok (.lconst 1, 1) := by decide +kernel
theorem dX11_init_338 : decode cX11_init 338 = .ok (.putfield 162, 3) := by decide +kernel
theorem dX11_init_341 : decode cX11_init 341 = .ok (.aload_n 0, 1) := by decide +kernel
theorem dX11_init_342 : decode cX11_init 342 = .ok (.sipush 500, 3) := by decide +kernel
theorem dX11_init_345 : decode cX11_init 345 = .ok (.newarray .long, 2) := by decide +kernel
theorem dX11_init_347 : decode cX11_init 347 = .ok (.putfield 165, 3) := by decide +kernel
theorem dX11_init_350 : decode cX11_init 350 = .ok (.aload_n 0, 1) := by decide +kernel
theorem dX11_init_351 : decode cX11_init 351 = .ok (.bipush 12, 2) := by decide +kernel
theorem dX11_init_353 : decode cX11_init 353 = .ok (.newarray .int, 2) := by decide +kernel
theorem dX11_init_355 : decode cX11_init 355 = .ok (.putfield 168, 3) := by decide +kernel
theorem dX11_init_358 : decode cX11_init 358 = .ok (.aload_n 0, 1) := by decide +kernel
theorem dX11_init_359 : decode cX11_init 359 = .ok (.iconst 0, 1) := by decide +kernel
theorem dX11_init_360 : decode cX11_init 360 = .ok (.putfield 171, 3) := by decide +kernel
theorem dX11_init_363 : decode cX11_init 363 = .ok (.aload_n 0, 1) := by decide +kernel
theorem dX11_init_364 : decode cX11_init 364 = .ok (.iconst 0, 1) := by decide +kernel
theorem dX11_init_365 : decode cX11_init 365 = .ok (.putfield 174, 3) := by decide +kernel
theorem dX11_init_368 : decode cX11_init 368 = .ok (.aload_n 0, 1) := by decide +kernel
theorem dX11_init_369 : decode cX11_init 369 = .ok (.lconst 0, 1) := by decide +kernel
theorem dX11_init_370 : decode cX11_init 370 = .ok (.putfield 177, 3) := by decide +kernel
theorem dX11_init_373 : decode cX11_init 373 = .ok (.aload_n 0, 1) := by decide +kernel
theorem dX11_init_374 : decode cX11_init 374 = .ok (.bipush 36, 2) := by decide +kernel
theorem dX11_init_376 : decode cX11_init 376 = .ok (.newarray .boolean, 2) := by decide +kernel
theorem dX11_init_378 : decode cX11_init 378 = .ok (.putfield 180, 3) := by decide +kernel
theorem dX11_init_381 : decode cX11_init 381 = .ok (.aload_n 0, 1) := by decide +kernel
theorem dX11_init_382 : decode cX11_init 382 = .ok (.iconst 3, 1) := by decide +kernel
theorem dX11_init_383 : decode cX11_init 383 = .ok (.newarray .int, 2) := by decide +kernel
theorem dX11_init_385 : decode cX11_init 385 = .ok (.putfield 183, 3) := by decide +kernel
theorem dX11_init_388 : decode cX11_init 388 = .ok (.aload_n 0, 1) := by decide +kernel
theorem dX11_init_389 : decode cX11_init 389 = .ok (.iconst (-1), 1) := by decide +kernel
theorem dX11_init_390 : decode cX11_init 390 = .ok (.putfield 186, 3) := by decide +kernel
theorem dX11_init_393 : decode cX11_init 393 = .ok (.aload_n 0, 1) := by decide +kernel
theorem dX11_init_394 : decode cX11_init 394 = .ok (.iconst (-1), 1) := by decide +kernel
theorem dX11_init_395 : decode cX11_init 395 = .ok (.putfield 189, 3) := by decide +kernel
theorem dX11_init_398 : decode cX11_init 398 = .ok (.aload_n 0, 1) := by decide +kernel
theorem dX11_init_399 : decode cX11_init 399 = .ok (.bipush 6, 2) := by decide +kernel
theorem dX11_init_401 : decode cX11_init 401 = .ok (.newarray .int, 2) := by decide +kernel
theorem dX11_init_403 : decode cX11_init 403 = .ok (.putfield 192, 3) := by decide +kernel
theorem dX11_init_406 : decode cX11_init 406 = .ok (.aload_n 0, 1) := by decide +kernel
theorem dX11_init_407 : decode cX11_init 407 = .ok (.iconst 0, 1) := by decide +kernel
theorem dX11_init_408 : decode cX11_init 408 = .ok (.putfield 195, 3) := by decide +kernel
theorem dX11_init_411 : decode cX11_init 411 = .ok (.aload_n 0, 1) := by decide +kernel
theorem dX11_init_412 : decode cX11_init 412 = .ok (.bipush 16, 2) := by decide +kernel
theorem dX11_init_414 : decode cX11_init 414 = .ok (.newarray .int, 2) := by decide +kernel
theorem dX11_init_416 : decode cX11_init 416 = .ok (.putfield 198, 3) := by decide +kernel
theorem dX11_init_419 : decode cX11_init 419 = .ok (.aload_n 0, 1) := by decide +kernel
theorem dX11_init_420 : decode cX11_init 420 = .ok (.bipush 16, 2) := by decide +kernel
theorem dX11_init_422 : decode cX11_init 422 = .ok (.newarray .int, 2) := by decide +kernel
theorem dX11_init_424 : decode cX11_init 424 = .ok (.putfield 201, 3) := by decide +kernel
theorem dX11_init_427 : decode cX11_init 427 = .ok (.aload_n 0, 1) := by decide +kernel
theorem dX11_init_428 : decode cX11_init 428 = .ok (.sipush 280, 3) := by decide +kernel
theorem dX11_init_431 : decode cX11_init 431 = .ok (.newarray .int, 2) := by decide +kernel
theorem dX11_init_433 : decode cX11_init 433 = .ok (.putfield 204, 3) := by decide +kernel
theorem dX11_init_436 : decode cX11_init 436 = .ok (.aload_n 0, 1) := by decide +kernel
theorem dX11_init_437 : decode cX11_init 437 = .ok (.iconst 0, 1) := by decide +kernel
theorem dX11_init_438 : decode cX11_init 438 = .ok (.putfield 207, 3) := by decide +kernel
theorem dX11_init_441 : decode cX11_init 441 = .ok (.iconst 0, 1) := by decide +kernel
theorem dX11_init_442 : decode cX11_init 442 = .ok (.istore_n 1, 1) := by decide +kernel
theorem dX11_init_443 : decode cX11_init 443 = .ok (.iload_n 1, 1) := by decide +kernel
theorem dX11_init_444 : decode cX11_init 444 = .ok (.bipush 6, 2) := by decide +kernel
theorem dX11_init_446 : decode cX11_init 446 = .ok (.if_icmp .ge 16, 3) := by decide +kernel
theorem dX11_init_449 : decode cX11_init 449 = .ok (.aload_n 0, 1) := by decide +kernel
theorem dX11_init_450 : decode cX11_init 450 = .ok (.getfield 72, 3) := by decide +kernel
theorem dX11_init_453 : decode cX11_init 453 = .ok (.iload_n 1, 1) := by decide +kernel
theorem dX11_init_454 : decode cX11_init 454 = .ok (.iconst (-1), 1) := by decide +kernel
theorem dX11_init_455 : decode cX11_init 455 = .ok (.iastore, 1) := by decide +kernel
theorem dX11_init_456 : decode cX11_init 456 = .ok (.iinc 1 1, 3) := by decide +kernel
theorem dX11_init_459 : decode cX11_init 459 = .ok (.goto (-16), 3) := by decide +kernel
theorem dX11_init_462 : decode cX11_init 462 = .ok (.iconst 0, 1) := by decide +kernel
theorem dX11_init_463 : decode cX11_init 463 = .ok (.istore_n 1, 1) := by decide +kernel
theorem dX11_init_464 : decode cX11_init 464 = .ok (.iload_n 1, 1) := by decide +kernel
theorem dX11_init_465 : decode cX11_init 465 = .ok (.iconst 2, 1) := by decide +kernel
theorem dX11_init_466 : decode cX11_init 466 = .ok (.if_icmp .ge 14, 3) := by decide +kernel
theorem dX11_init_469 : decode cX11_init 469 = .ok (.aload_n 0, 1) := by decide +kernel
theorem dX11_init_470 : decode cX11_init 470 = .ok (.iload_n 1, 1) := by decide +kernel
theorem dX11_init_471 : decode cX11_init 471 = .ok (.invokevirtual 210, 3) := by decide +kernel
theorem dX11_init_474 : decode cX11_init 474 = .ok (.iinc 1 1, 3) := by decide +kernel
theorem dX11_init_477 : decode cX11_init 477 = .ok (.goto (-13), 3) := by decide +kernel
theorem dX11_init_480 : decode cX11_init 480 = .ok (.return_, 1) := by decide +kernel
theorem dX11_is_0 : decode cX11_is 0 = .ok (.iload_n 0, 1) := by decide +kernel
theorem dX11_is_1 : decode cX11_is 1 = .ok (.iload_n 1, 1) := by decide +kernel
theorem dX11_is_2 : decode cX11_is 2 = .ok (.if_icmp .lt 12, 3) := by decide +kernel
theorem dX11_is_5 : decode cX11_is 5 = .ok (.iload_n 0, 1) := by decide +kernel
theorem dX11_is_6 : decode cX11_is 6 = .ok (.iload_n 2, 1) := by decide +kernel
theorem dX11_is_7 : decode cX11_is 7 = .ok (.if_icmp .gt 7, 3) := by decide +kernel
theorem dX11_is_10 : decode cX11_is 10 = .ok (.iconst 1, 1) := by decide +kernel
theorem dX11_is_11 : decode cX11_is 11 = .ok (.goto 4, 3) := by decide +kernel
theorem dX11_is_14 : decode cX11_is 14 = .ok (.iconst 0, 1) := by decide +kernel
theorem dX11_is_15 : decode cX11_is 15 = .ok (.ireturn, 1) := by decide +kernel
theorem dX11_put_0 : decode cX11_put 0 = .ok (.bipush 24, 2) := by decide +kernel
theorem dX11_put_2 : decode cX11_put 2 = .ok (.istore_n 2, 1) := by decide +kernel
theorem dX11_put_3 : decode cX11_put 3 = .ok (.iload_n 2, 1) := by decide +kernel
theorem dX11_put_4 : decode cX11_put 4 = .ok (.ifCond .lt 35, 3) := by decide +kernel
theorem dX11_put_7 : decode cX11_put 7 = .ok (.aload_n 0, 1) := by decide +kernel
theorem dX11_put_8 : decode cX11_put 8 = .ok (.getfield 7, 3) := by decide +kernel
theorem dX11_put_11 : decode cX11_put 11 = .ok (.aload_n 0, 1) := by decide +kernel
theorem dX11_put_12 : decode cX11_put 12 = .ok (.getfield 13, 3) := by decide +kernel
theorem dX11_put_15 : decode cX11_put 15 = .ok (.iload_n 1, 1) := by decide +kernel
theorem dX11_put_16 : decode cX11_put 16 = .ok (.iload_n 2, 1) := by decide +kernel
theorem dX11_put_17 : decode cX11_put 17 = .ok (.ishr, 1) := by decide +kernel
theorem dX11_put_18 : decode cX11_put 18 = .ok (.sipush 255, 3) := by decide +kernel
theorem dX11_put_21 : decode cX11_put 21 = .ok (.iand, 1) := by decide +kernel
theorem dX11_put_22 : decode cX11_put 22 = .ok (.iastore, 1) := by decide +kernel
theorem dX11_put_23 : decode cX11_put 23 = .ok (.aload_n 0, 1) := by decide +kernel
theorem dX11_put_24 : decode cX11_put 24 = .ok (.dup, 1) := by decide +kernel
theorem dX11_put_25 : decode cX11_put 25 = .ok (.getfield 13, 3) := by decide +kernel
theorem dX11_put_28 : decode cX11_put 28 = .ok (.iconst 1, 1) := by decide +kernel
theorem dX11_put_29 : decode cX11_put 29 = .ok (.iadd, 1) := by decide +kernel
theorem dX11_put_30 : decode cX11_put 30 = .ok (.putfield 13, 3) := by decide +kernel
theorem dX11_put_33 : decode cX11_put 33 = .ok (.iinc 2 (-8), 3) := by decide +kernel
theorem dX11_put_36 : decode cX11_put 36 = .ok (.goto (-33), 3) := by decide +kernel
theorem dX11_put_39 : decode cX11_put 39 = .ok (.return_, 1) := by decide +kernel
theorem dX11_feed_0 : decode cX11_feed 0 = .ok (.aload_n 0, 1) := by decide +kernel
theorem dX11_feed_1 : decode cX11_feed 1 = .ok (.getfield 13, 3) := by decide +kernel
theorem dX11_feed_4 : decode cX11_feed 4 = .ok (.bipush 20, 2) := by decide +kernel
theorem dX11_feed_6 : decode cX11_feed 6 = .ok (.iadd, 1) := by decide +kernel
theorem dX11_feed_7 : decode cX11_feed 7 = .ok (.sipush 1600, 3) := by decide +kernel
theorem dX11_feed_10 : decode cX11_feed 10 = .ok (.if_icmp .le 9, 3) := by decide +kernel
theorem dX11_feed_13 : decode cX11_feed 13 = .ok (.aload_n 0, 1) := by decide +kernel
theorem dX11_feed_14 : decode cX11_feed 14 = .ok (.iconst 0, 1) := by decide +kernel
theorem dX11_feed_15 : decode cX11_feed 15 = .ok (.invokevirtual 214, 3) := by decide +kernel
theorem dX11_feed_18 : decode cX11_feed 18 = .ok (.ireturn, 1) := by decide +kernel
theorem dX11_feed_19 : decode cX11_feed 19 = .ok (.aload_n 0, 1) := by decide +kernel
theorem dX11_feed_20 : decode cX11_feed 20 = .ok (.iload_n 1, 1) := by decide +kernel
theorem dX11_feed_21 : decode cX11_feed 21 = .ok (.invokevirtual 218, 3) := by decide +kernel
theorem dX11_feed_24 : decode cX11_feed 24 = .ok (.aload_n 0, 1) := by decide +kernel
theorem dX11_feed_25 : decode cX11_feed 25 = .ok (.iload_n 2, 1) := by decide +kernel
theorem dX11_feed_26 : decode cX11_feed 26 = .ok (.invokevirtual 218, 3) := by decide +kernel
theorem dX11_feed_29 : decode cX11_feed 29 = .ok (.aload_n 0, 1) := by decide +kernel
theorem dX11_feed_30 : decode cX11_feed 30 = .ok (.iload_n 3, 1) := by decide +kernel
theorem dX11_feed_31 : decode cX11_feed 31 = .ok (.invokevirtual 218, 3) := by decide +kernel
theorem dX11_feed_34 : decode cX11_feed 34 = .ok (.aload_n 0, 1) := by decide +kernel
theorem dX11_feed_35 : decode cX11_feed 35 = .ok (.iload 4, 2) := by decide +kernel
theorem dX11_feed_37 : decode cX11_feed 37 = .ok (.invokevirtual 218, 3) := by decide +kernel
theorem dX11_feed_40 : decode cX11_feed 40 = .ok (.aload_n 0, 1) := by decide +kernel
theorem dX11_feed_41 : decode cX11_feed 41 = .ok (.iload 5, 2) := by decide +kernel
theorem dX11_feed_43 : decode cX11_feed 43 = .ok (.invokevirtual 218, 3) := by decide +kernel
theorem dX11_feed_46 : decode cX11_feed 46 = .ok (.aload_n 0, 1) := by decide +kernel
theorem dX11_feed_47 : decode cX11_feed 47 = .ok (.getfield 13, 3) := by decide +kernel
theorem dX11_feed_50 : decode cX11_feed 50 = .ok (.ireturn, 1) := by decide +kernel
theorem dX11_end_0 : decode cX11_end 0 = .ok (.iload_n 1, 1) := by decide +kernel
theorem dX11_end_1 : decode cX11_end 1 = .ok (.ifCond .lt 11, 3) := by decide +kernel
theorem dX11_end_4 : decode cX11_end 4 = .ok (.iload_n 1, 1) := by decide +kernel
theorem dX11_end_5 : decode cX11_end 5 = .ok (.aload_n 0, 1) := by decide +kernel
theorem dX11_end_6 : decode cX11_end 6 = .ok (.getfield 13, 3) := by decide +kernel
theorem dX11_end_9 : decode cX11_end 9 = .ok (.if_icmp .le 17, 3) := by decide +kernel
theorem dX11_end_12 : decode cX11_end 12 = .ok (.aload_n 0, 1) := by decide +kernel
theorem dX11_end_13 : decode cX11_end 13 = .ok (.iconst 0, 1) := by decide +kernel
theorem dX11_end_14 : decode cX11_end 14 = .ok (.invokevirtual 214, 3) := by decide +kernel
theorem dX11_end_17 : decode cX11_end 17 = .ok (.ifCond .lt 7, 3) := by decide +kernel
theorem dX11_end_20 : decode cX11_end 20 = .ok (.iconst 1, 1) := by decide +kernel
theorem dX11_end_21 : decode cX11_end 21 = .ok (.goto 4, 3) := by decide +kernel
theorem dX11_end_24 : decode cX11_end 24 = .ok (.iconst 0, 1) := by decide +kernel
theorem dX11_end_25 : decode cX11_end 25 = .ok (.ireturn, 1) := by decide +kernel
theorem dX11_end_26 : decode cX11_end 26 = .ok (.aload_n 0, 1) := by decide +kernel
theorem dX11_end_27 : decode cX11_end 27 = .ok (.iload_n 1, 1) := by decide +kernel
theorem dX11_end_28 : decode cX11_end 28 = .ok (.putfield 13, 3) := by decide +kernel
theorem dX11_end_31 : decode cX11_end 31 = .ok (.iconst 1, 1) := by decide +kernel
theorem dX11_end_32 : decode cX11_end 32 = .ok (.ireturn, 1) := by decide +kernel
theorem dX11_blame_0 : decode cX11_blame 0 = .ok (.aload_n 0, 1) := by decide +kernel
theorem dX11_blame_1 : decode cX11_blame 1 = .ok (.getfield 36, 3) := by decide +kernel
theorem dX11_blame_4 : decode cX11_blame 4 = .ok (.ifCond .le 4, 3) := by decide +kernel
theorem dX11_blame_7 : decode cX11_blame 7 = .ok (.return_, 1) := by decide +kernel
theorem dX11_blame_8 : decode cX11_blame 8 = .ok (.aload_n 0, 1) := by decide +kernel
theorem dX11_blame_9 : decode cX11_blame 9 = .ok (.iload_n 1, 1) := by decide +kernel
theorem dX11_blame_10 : decode cX11_blame 10 = .ok (.putfield 36, 3) := by decide +kernel
theorem dX11_blame_13 : decode cX11_blame 13 = .ok (.aload_n 0, 1) := by decide +kernel
theorem dX11_blame_14 : decode cX11_blame 14 = .ok (.iload_n 2, 1) := by decide +kernel
theorem dX11_blame_15 : decode cX11_blame 15 = .ok (.putfield 39, 3) := by decide +kernel
theorem dX11_blame_18 : decode cX11_blame 18 = .ok (.return_, 1) := by decide +kernel
theorem dX11_isLetter_0 : decode cX11_isLetter 0 = .ok (.iload_n 0, 1) := by decide +kernel
theorem dX11_isLetter_1 : decode cX11_isLetter 1 = .ok (.bipush 97, 2) := by decide +kernel
theorem dX11_isLetter_3 : decode cX11_isLetter 3 = .ok (.if_icmp .lt 13, 3) := by decide +kernel
theorem dX11_isLetter_6 : decode cX11_isLetter 6 = .ok (.iload_n 0, 1) := by decide +kernel
theorem dX11_isLetter_7 : decode cX11_isLetter 7 = .ok (.bipush 122, 2) := by decide +kernel
theorem dX11_isLetter_9 : decode cX11_isLetter 9 = .ok (.if_icmp .gt 7, 3) := by decide +kernel
theorem dX11_isLetter_12 : decode cX11_isLetter 12 = .ok (.iconst 1, 1) := by decide +kernel
theorem dX11_isLetter_13 : decode cX11_isLetter 13 = .ok (.goto 4, 3) := by decide +kernel
theorem dX11_isLetter_16 : decode cX11_isLetter 16 = .ok (.iconst 0, 1) := by decide +kernel
theorem dX11_isLetter_17 : decode cX11_isLetter 17 = .ok (.ireturn, 1) := by decide +kernel
theorem dX11_isDigit_0 : decode cX11_isDigit 0 = .ok (.iload_n 0, 1) := by decide +kernel
theorem dX11_isDigit_1 : decode cX11_isDigit 1 = .ok (.bipush 48, 2) := by decide +kernel
theorem dX11_isDigit_3 : decode cX11_isDigit 3 = .ok (.if_icmp .lt 13, 3) := by decide +kernel
theorem dX11_isDigit_6 : decode cX11_isDigit 6 = .ok (.iload_n 0, 1) := by decide +kernel
theorem dX11_isDigit_7 : decode cX11_isDigit 7 = .ok (.bipush 57, 2) := by decide +kernel
theorem dX11_isDigit_9 : decode cX11_isDigit 9 = .ok (.if_icmp .gt 7, 3) := by decide +kernel
theorem dX11_isDigit_12 : decode cX11_isDigit 12 = .ok (.iconst 1, 1) := by decide +kernel
theorem dX11_isDigit_13 : decode cX11_isDigit 13 = .ok (.goto 4, 3) := by decide +kernel
theorem dX11_isDigit_16 : decode cX11_isDigit 16 = .ok (.iconst 0, 1) := by decide +kernel
theorem dX11_isDigit_17 : decode cX11_isDigit 17 = .ok (.ireturn, 1) := by decide +kernel
theorem dX11_lex_0 : decode cX11_lex 0 = .ok (.aload_n 0, 1) := by decide +kernel
theorem dX11_lex_1 : decode cX11_lex 1 = .ok (.getfield 48, 3) := by decide +kernel
theorem dX11_lex_4 : decode cX11_lex 4 = .ok (.iconst (-1), 1) := by decide +kernel
theorem dX11_lex_5 : decode cX11_lex 5 = .ok (.if_icmp .eq 12, 3) := by decide +kernel
theorem dX11_lex_8 : decode cX11_lex 8 = .ok (.aload_n 0, 1) := by decide +kernel
theorem dX11_lex_9 : decode cX11_lex 9 = .ok (.iconst 1, 1) := by decide +kernel
theorem dX11_lex_10 : decode cX11_lex 10 = .ok (.aload_n 0, 1) := by decide +kernel
theorem dX11_lex_11 : decode cX11_lex 11 = .ok (.getfield 48, 3) := by decide +kernel
theorem dX11_lex_14 : decode cX11_lex 14 = .ok (.invokevirtual 221, 3) := by decide +kernel
theorem dX11_lex_17 : decode cX11_lex 17 = .ok (.return_, 1) := by decide +kernel
theorem dX11_ahead_0 : decode cX11_ahead 0 = .ok (.aload_n 0, 1) := by decide +kernel
theorem dX11_ahead_1 : decode cX11_ahead 1 = .ok (.getfield 26, 3) := by decide +kernel
theorem dX11_ahead_4 : decode cX11_ahead 4 = .ok (.istore_n 1, 1) := by decide +kernel
theorem dX11_ahead_5 : decode cX11_ahead 5 = .ok (.iload_n 1, 1) := by decide +kernel
theorem dX11_ahead_6 : decode cX11_ahead 6 = .ok (.aload_n 0, 1) := by decide +kernel
theorem dX11_ahead_7 : decode cX11_ahead 7 = .ok (.getfield 17, 3) := by decide +kernel
theorem dX11_ahead_10 : decode cX11_ahead 10 = .ok (.if_icmp .ge 31, 3) := by decide +kernel
theorem dX11_ahead_13 : decode cX11_ahead 13 = .ok (.aload_n 0, 1) := by decide +kernel
theorem dX11_ahead_14 : decode cX11_ahead 14 = .ok (.getfield 7, 3) := by decide +kernel
theorem dX11_ahead_17 : decode cX11_ahead 17 = .ok (.iload_n 1, 1) := by decide +kernel
theorem dX11_ahead_18 : decode cX11_ahead 18 = .ok (.iaload, 1) := by decide +kernel
theorem dX11_ahead_19 : decode cX11_ahead 19 = .ok (.bipush 32, 2) := by decide +kernel
theorem dX11_ahead_21 : decode cX11_ahead 21 = .ok (.if_icmp .eq 14, 3) := by decide +kernel
theorem dX11_ahead_24 : decode cX11_ahead 24 = .ok (.aload_n 0, 1) := by decide +kernel
theorem dX11_ahead_25 : decode cX11_ahead 25 = .ok (.getfield 7, 3) := by decide +kernel
theorem dX11_ahead_28 : decode cX11_ahead 28 = .ok (.iload_n 1, 1) := by decide +kernel
theorem dX11_ahead_29 : decode cX11_ahead 29 = .ok (.iaload, 1) := by decide +kernel
theorem dX11_ahead_30 : decode cX11_ahead 30 = .ok (.bipush 10, 2) := by decide +kernel
theorem dX11_ahead_32 : decode cX11_ahead 32 = .ok (.if_icmp .ne 9, 3) := by decide +kernel
theorem dX11_ahead_35 : decode cX11_ahead 35 = .ok (.iinc 1 1, 3) := by decide +kernel
theorem dX11_ahead_38 : decode cX11_ahead 38 = .ok (.goto (-33), 3) := by decide +kernel
theorem dX11_ahead_41 : decode cX11_ahead 41 = .ok (.aload_n 0, 1) := by decide +kernel
theorem dX11_ahead_42 : decode cX11_ahead 42 = .ok (.iload_n 1, 1) := by decide +kernel
theorem dX11_ahead_43 : decode cX11_ahead 43 = .ok (.putfield 23, 3) := by decide +kernel
theorem dX11_ahead_46 : decode cX11_ahead 46 = .ok (.aload_n 0, 1) := by decide +kernel
theorem dX11_ahead_47 : decode cX11_ahead 47 = .ok (.iload_n 1, 1) := by decide +kernel
theorem dX11_ahead_48 : decode cX11_ahead 48 = .ok (.putfield 26, 3) := by decide +kernel
theorem dX11_ahead_51 : decode cX11_ahead 51 = .ok (.aload_n 0, 1) := by decide +kernel
theorem dX11_ahead_52 : decode cX11_ahead 52 = .ok (.iconst 0, 1) := by decide +kernel
theorem dX11_ahead_53 : decode cX11_ahead 53 = .ok (.putfield 20, 3) := by decide +kernel
theorem dX11_ahead_56 : decode cX11_ahead 56 = .ok (.aload_n 0, 1) := by decide +kernel
theorem dX11_ahead_57 : decode cX11_ahead 57 = .ok (.iconst (-1), 1) := by decide +kernel
theorem dX11_ahead_58 : decode cX11_ahead 58 = .ok (.putfield 48, 3) := by decide +kernel
theorem dX11_ahead_61 : decode cX11_ahead 61 = .ok (.iload_n 1, 1) := by decide +kernel
theorem dX11_ahead_62 : decode cX11_ahead 62 = .ok (.aload_n 0, 1) := by decide +kernel
theorem dX11_ahead_63 : decode cX11_ahead 63 = .ok (.getfield 17, 3) := by decide +kernel
theorem dX11_ahead_66 : decode cX11_ahead 66 = .ok (.if_icmp .lt 4, 3) := by decide +kernel
theorem dX11_ahead_69 : decode cX11_ahead 69 = .ok (.return_, 1) := by decide +kernel
theorem dX11_ahead_70 : decode cX11_ahead 70 = .ok (.aload_n 0, 1) := by decide +kernel
theorem dX11_ahead_71 : decode cX11_ahead 71 = .ok (.getfield 7, 3) := by decide +kernel
theorem dX11_ahead_74 : decode cX11_ahead 74 = .ok (.iload_n 1, 1) := by decide +kernel
theorem dX11_ahead_75 : decode cX11_ahead 75 = .ok (.iaload, 1) := by decide +kernel
theorem dX11_ahead_76 : decode cX11_ahead 76 = .ok (.invokestatic 225, 3) := by decide +kernel
theorem dX11_ahead_79 : decode cX11_ahead 79 = .ok (.istore_n 2, 1) := by decide +kernel
theorem dX11_ahead_80 : decode cX11_ahead 80 = .ok (.aload_n 0, 1) := by decide +kernel
theorem dX11_ahead_81 : decode cX11_ahead 81 = .ok (.getfield 7, 3) := by decide +kernel
theorem dX11_ahead_84 : decode cX11_ahead 84 = .ok (.iload_n 1, 1) := by decide +kernel
theorem dX11_ahead_85 : decode cX11_ahead 85 = .ok (.iaload, 1) := by decide +kernel
theorem dX11_ahead_86 : decode cX11_ahead 86 = .ok (.invokestatic 229, 3) := by decide +kernel
theorem dX11_ahead_89 : decode cX11_ahead 89 = .ok (.istore_n 3, 1) := by decide +kernel
theorem dX11_ahead_90 : decode cX11_ahead 90 = .ok (.iload_n 2, 1) := by decide +kernel
theorem dX11_ahead_91 : decode cX11_ahead 91 = .ok (.ifCond .ne 7, 3) := by decide +kernel
theorem dX11_ahead_94 : decode cX11_ahead 94 = .ok (.iload_n 3, 1) := by decide +kernel
theorem dX11_ahead_95 : decode cX11_ahead 95 = .ok (.ifCond .eq 40, 3) := by decide +kernel
theorem dX11_ahead_98 : decode cX11_ahead 98 = .ok (.iload_n 1, 1) := by decide +kernel
theorem dX11_ahead_99 : decode cX11_ahead 99 = .ok (.ifCond .le 36, 3) := by decide +kernel
theorem dX11_ahead_102 : decode cX11_ahead 102 = .ok (.aload_n 0, 1) := by decide +kernel
theorem dX11_ahead_103 : decode cX11_ahead 103 = .ok (.getfield 7, 3) := by decide +kernel
theorem dX11_ahead_106 : decode cX11_ahead 106 = .ok (.iload_n 1, 1) := by decide +kernel
theorem dX11_ahead_107 : decode cX11_ahead 107 = .ok (.iconst 1, 1) := by decide +kernel
theorem dX11_ahead_108 : decode cX11_ahead 108 = .ok (.isub, 1) := by decide +kernel
theorem dX11_ahead_109 : decode cX11_ahead 109 = .ok (.iaload, 1) := by decide +kernel
theorem dX11_ahead_110 : decode cX11_ahead 110 = .ok (.invokestatic 225, 3) := by decide +kernel
theorem dX11_ahead_113 : decode cX11_ahead 113 = .ok (.ifCond .ne 17, 3) := by decide +kernel
theorem dX11_ahead_116 : decode cX11_ahead 116 = .ok (.aload_n 0, 1) := by decide +kernel
theorem dX11_ahead_117 : decode cX11_ahead 117 = .ok (.getfield 7, 3) := by decide +kernel
theorem dX11_ahead_120 : decode cX11_ahead 120 = .ok (.iload_n 1, 1) := by decide +kernel
theorem dX11_ahead_121 : decode cX11_ahead 121 = .ok (.iconst 1, 1) := by decide +kernel
theorem dX11_ahead_122 : decode cX11_ahead 122 = .ok (.isub, 1) := by decide +kernel
theorem dX11_ahead_123 : decode cX11_ahead 123 = .ok (.iaload, 1) := by decide +kernel
theorem dX11_ahead_124 : decode cX11_ahead 124 = .ok (.invokestatic 229, 3) := by decide +kernel
theorem dX11_ahead_127 : decode cX11_ahead 127 = .ok (.ifCond .eq 8, 3) := by decide +kernel
theorem dX11_ahead_130 : decode cX11_ahead 130 = .ok (.aload_n 0, 1) := by decide +kernel
theorem dX11_ahead_131 : decode cX11_ahead 131 = .ok (.iload_n 1, 1) := by decide +kernel
theorem dX11_ahead_132 : decode cX11_ahead 132 = .ok (.putfield 48, 3) := by decide +kernel
theorem dX11_ahead_135 : decode cX11_ahead 135 = .ok (.aload_n 0, 1) := by decide +kernel
theorem dX11_ahead_136 : decode cX11_ahead 136 = .ok (.iconst 0, 1) := by decide +kernel
theorem dX11_ahead_137 : decode cX11_ahead 137 = .ok (.putfield 29, 3) := by decide +kernel
theorem dX11_ahead_140 : decode cX11_ahead 140 = .ok (.aload_n 0, 1) := by decide +kernel
theorem dX11_ahead_141 : decode cX11_ahead 141 = .ok (.lconst 0, 1) := by decide +kernel
theorem dX11_ahead_142 : decode cX11_ahead 142 = .ok (.putfield 32, 3) := by decide +kernel
theorem dX11_ahead_145 : decode cX11_ahead 145 = .ok (.aload_n 0, 1) := by decide +kernel
theorem dX11_ahead_146 : decode cX11_ahead 146 = .ok (.iconst 3, 1) := by decide +kernel
theorem dX11_ahead_147 : decode cX11_ahead 147 = .ok (.putfield 20, 3) := by decide +kernel
theorem dX11_ahead_150 : decode cX11_ahead 150 = .ok (.aload_n 0, 1) := by decide +kernel
theorem dX11_ahead_151 : decode cX11_ahead 151 = .ok (.iload_n 1, 1) := by decide +kernel
theorem dX11_ahead_152 : decode cX11_ahead 152 = .ok (.iconst 1, 1) := by decide +kernel
theorem dX11_ahead_153 : decode cX11_ahead 153 = .ok (.iadd, 1) := by decide +kernel
theorem dX11_ahead_154 : decode cX11_ahead 154 = .ok (.putfield 26, 3) := by decide +kernel
theorem dX11_ahead_157 : decode cX11_ahead 157 = .ok (.iload_n 2, 1) := by decide +kernel
theorem dX11_ahead_158 : decode cX11_ahead 158 = .ok (.ifCond .ne 18, 3) := by decide +kernel
theorem dX11_ahead_161 : decode cX11_ahead 161 = .ok (.iload_n 3, 1) := by decide +kernel
theorem dX11_ahead_162 : decode cX11_ahead 162 = .ok (.ifCond .ne 14, 3) := by decide +kernel
theorem dX11_ahead_165 : decode cX11_ahead 165 = .ok (.aload_n 0, 1) := by decide +kernel
theorem dX11_ahead_166 : decode cX11_ahead 166 = .ok (.aload_n 0, 1) := by decide +kernel
theorem dX11_ahead_167 : decode cX11_ahead 167 = .ok (.getfield 7, 3) := by decide +kernel
theorem dX11_ahead_170 : decode cX11_ahead 170 = .ok (.iload_n 1, 1) := by decide +kernel
theorem dX11_ahead_171 : decode cX11_ahead 171 = .ok (.iaload, 1) := by decide +kernel
theorem dX11_ahead_172 : decode cX11_ahead 172 = .ok (.putfield 29, 3) := by decide +kernel
theorem dX11_ahead_175 : decode cX11_ahead 175 = .ok (.return_, 1) := by decide +kernel
theorem dX11_ahead_176 : decode cX11_ahead 176 = .ok (.aload_n 0, 1) := by decide +kernel
theorem dX11_ahead_177 : decode cX11_ahead 177 = .ok (.iload_n 2, 1) := by decide +kernel
theorem dX11_ahead_178 : decode cX11_ahead 178 = .ok (.ifCond .eq 7, 3) := by decide +kernel
theorem dX11_ahead_181 : decode cX11_ahead 181 = .ok (.iconst 1, 1) := by decide +kernel
theorem dX11_ahead_182 : decode cX11_ahead 182 = .ok (.goto 4, 3) := by decide +kernel
theorem dX11_ahead_185 : decode cX11_ahead 185 = .ok (.iconst 2, 1) := by decide +kernel
theorem dX11_ahead_186 : decode cX11_ahead 186 = .ok (.putfield 20, 3) := by decide +kernel
theorem dX11_ahead_189 : decode cX11_ahead 189 = .ok (.iload_n 2, 1) := by decide +kernel
theorem dX11_ahead_190 : decode cX11_ahead 190 = .ok (.ifCond .eq 8, 3) := by decide +kernel
theorem dX11_ahead_193 : decode cX11_ahead 193 = .ok (.bipush 6, 2) := by decide +kernel
theorem dX11_ahead_195 : decode cX11_ahead 195 = .ok (.goto 4, 3) := by decide +kernel
theorem dX11_ahead_198 : decode cX11_ahead 198 = .ok (.iconst 4, 1) := by decide +kernel
theorem dX11_ahead_199 : decode cX11_ahead 199 = .ok (.istore 4, 2) := by decide +kernel
theorem dX11_ahead_201 : decode cX11_ahead 201 = .ok (.iconst 0, 1) := by decide +kernel
theorem dX11_ahead_202 : decode cX11_ahead 202 = .ok (.istore 5, 2) := by decide +kernel
theorem dX11_ahead_204 : decode cX11_ahead 204 = .ok (.iload_n 1, 1) := by decide +kernel
theorem dX11_ahead_205 : decode cX11_ahead 205 = .ok (.aload_n 0, 1) := by decide +kernel
theorem dX11_ahead_206 : decode cX11_ahead 206 = .ok (.getfield 17, 3) := by decide +kernel
theorem dX11_ahead_209 : decode cX11_ahead 209 = .ok (.if_icmp .ge 125, 3) := by decide +kernel
theorem dX11_ahead_212 : decode cX11_ahead 212 = .ok (.iload_n 2, 1) := by decide +kernel
theorem dX11_ahead_213 : decode cX11_ahead 213 = .ok (.ifCond .eq 18, 3) := by decide +kernel
theorem dX11_ahead_216 : decode cX11_ahead 216 = .ok (.aload_n 0, 1) := by decide +kernel
theorem dX11_ahead_217 : decode cX11_ahead 217 = .ok (.getfield 7, 3) := by decide +kernel
theorem dX11_ahead_220 : decode cX11_ahead 220 = .ok (.iload_n 1, 1) := by decide +kernel
theorem dX11_ahead_221 : decode cX11_ahead 221 = .ok (.iaload, 1) := by decide +kernel
theorem dX11_ahead_222 : decode cX11_ahead 222 = .ok (.invokestatic 225, 3) := by decide +kernel
theorem dX11_ahead_225 : decode cX11_ahead 225 = .ok (.ifCond .eq 109, 3) := by decide +kernel
theorem dX11_ahead_228 : decode cX11_ahead 228 = .ok (.goto 15, 3) := by decide +kernel
theorem dX11_ahead_231 : decode cX11_ahead 231 = .ok (.aload_n 0, 1) := by decide +kernel
theorem dX11_ahead_232 : decode cX11_ahead 232 = .ok (.getfield 7, 3) := by decide +kernel
theorem dX11_ahead_235 : decode cX11_ahead 235 = .ok (.iload_n 1, 1) := by decide +kernel
theorem dX11_ahead_236 : decode cX11_ahead 236 = .ok (.iaload, 1) := by decide +kernel
theorem dX11_ahead_237 : decode cX11_ahead 237 = .ok (.invokestatic 229, 3) := by decide +kernel
theorem dX11_ahead_240 : decode cX11_ahead 240 = .ok (.ifCond .eq 94, 3) := by decide +kernel
theorem dX11_ahead_243 : decode cX11_ahead 243 = .ok (.iload 5, 2) := by decide +kernel
theorem dX11_ahead_245 : decode cX11_ahead 245 = .ok (.iload 4, 2) := by decide +kernel
theorem dX11_ahead_247 : decode cX11_ahead 247 = .ok (.if_icmp .ne 16, 3) := by decide +kernel
theorem dX11_ahead_250 : decode cX11_ahead 250 = .ok (.aload_n 0, 1) := by decide +kernel
theorem dX11_ahead_251 : decode cX11_ahead 251 = .ok (.getfield 48, 3) := by decide +kernel
theorem dX11_ahead_254 : decode cX11_ahead 254 = .ok (.iconst (-1), 1) := by decide +kernel
theorem dX11_ahead_255 : decode cX11_ahead 255 = .ok (.if_icmp .ne 8, 3) := by decide +kernel
theorem dX11_ahead_258 : decode cX11_ahead 258 = .ok (.aload_n 0, 1) := by decide +kernel
theorem dX11_ahead_259 : decode cX11_ahead 259 = .ok (.iload_n 1, 1) := by decide +kernel
theorem dX11_ahead_260 : decode cX11_ahead 260 = .ok (.putfield 48, 3) := by decide +kernel
theorem dX11_ahead_263 : decode cX11_ahead 263 = .ok (.iload 5, 2) := by decide +kernel
theorem dX11_ahead_265 : decode cX11_ahead 265 = .ok (.iload 4, 2) := by decide +kernel
theorem dX11_ahead_267 : decode cX11_ahead 267 = .ok (.if_icmp .ge 26, 3) := by decide +kernel
theorem dX11_ahead_270 : decode cX11_ahead 270 = .ok (.iload_n 2, 1) := by decide +kernel
theorem dX11_ahead_271 : decode cX11_ahead 271 = .ok (.ifCond .eq 22, 3) := by decide +kernel
theorem dX11_ahead_274 : decode cX11_ahead 274 = .ok (.aload_n 0, 1) := by decide +kernel
theorem dX11_ahead_275 : decode cX11_ahead 275 = .ok (.aload_n 0, 1) := by decide +kernel
theorem dX11_ahead_276 : decode cX11_ahead 276 = .ok (.getfield 32, 3) := by decide +kernel
theorem dX11_ahead_279 : decode cX11_ahead 279 = .ok (.bipush 8, 2) := by decide +kernel
theorem dX11_ahead_281 : decode cX11_ahead 281 = .ok (.lshl, 1) := by decide +kernel
theorem dX11_ahead_282 : decode cX11_ahead 282 = .ok (.aload_n 0, 1) := by decide +kernel
theorem dX11_ahead_283 : decode cX11_ahead 283 = .ok (.getfield 7, 3) := by decide +kernel
theorem dX11_ahead_286 : decode cX11_ahead 286 = .ok (.iload_n 1, 1) := by decide +kernel
theorem dX11_ahead_287 : decode cX11_ahead 287 = .ok (.iaload, 1) := by decide +kernel
theorem dX11_ahead_288 : decode cX11_ahead 288 = .ok (.i2l, 1) := by decide +kernel
theorem dX11_ahead_289 : decode cX11_ahead 289 = .ok (.lor, 1) := by decide +kernel
theorem dX11_ahead_290 : decode cX11_ahead 290 = .ok (.putfield 32, 3) := by decide +kernel
theorem dX11_ahead_293 : decode cX11_ahead 293 = .ok (.iload 5, 2) := by decide +kernel
theorem dX11_ahead_295 : decode cX11_ahead 295 = .ok (.iload 4, 2) := by decide +kernel
theorem dX11_ahead_297 : decode cX11_ahead 297 = .ok (.if_icmp .ge 28, 3) := by decide +kernel
theorem dX11_ahead_300 : decode cX11_ahead 300 = .ok (.iload_n 3, 1) := by decide +kernel
theorem dX11_ahead_301 : decode cX11_ahead 301 = .ok (.ifCond .eq 24, 3) := by decide +kernel
theorem dX11_ahead_304 : decode cX11_ahead 304 = .ok (.aload_n 0, 1) := by decide +kernel
theorem dX11_ahead_305 : decode cX11_ahead 305 = .ok (.bipush 10, 2) := by decide +kernel
theorem dX11_ahead_307 : decode cX11_ahead 307 = .ok (.aload_n 0, 1) := by decide +kernel
theorem dX11_ahead_308 : decode cX11_ahead 308 = .ok (.getfield 29, 3) := by decide +kernel
theorem dX11_ahead_311 : decode cX11_ahead 311 = .ok (.imul, 1) := by decide +kernel
theorem dX11_ahead_312 : decode cX11_ahead 312 = .ok (.aload_n 0, 1) := by decide +kernel
theorem dX11_ahead_313 : decode cX11_ahead 313 = .ok (.getfield 7, 3) := by decide +kernel
theorem dX11_ahead_316 : decode cX11_ahead 316 = .ok (.iload_n 1, 1) := by decide +kernel
theorem dX11_ahead_317 : decode cX11_ahead 317 = .ok (.iaload, 1) := by decide +kernel
theorem dX11_ahead_318 : decode cX11_ahead 318 = .ok (.iadd, 1) := by decide +kernel
theorem dX11_ahead_319 : decode cX11_ahead 319 = .ok (.bipush 48, 2) := by decide +kernel
theorem dX11_ahead_321 : decode cX11_ahead 321 = .ok (.isub, 1) := by decide +kernel
theorem dX11_ahead_322 : decode cX11_ahead 322 = .ok (.putfield 29, 3) := by decide +kernel
theorem dX11_ahead_325 : decode cX11_ahead 325 = .ok (.iinc 5 1, 3) := by decide +kernel
theorem dX11_ahead_328 : decode cX11_ahead 328 = .ok (.iinc 1 1, 3) := by decide +kernel
theorem dX11_ahead_331 : decode cX11_ahead 331 = .ok (.goto (-127), 3) := by decide +kernel
theorem dX11_ahead_334 : decode cX11_ahead 334 = .ok (.aload_n 0, 1) := by decide +kernel
theorem dX11_ahead_335 : decode cX11_ahead 335 = .ok (.iload_n 1, 1) := by decide +kernel
theorem dX11_ahead_336 : decode cX11_ahead 336 = .ok (.putfield 26, 3) := by decide +kernel
theorem dX11_ahead_339 : decode cX11_ahead 339 = .ok (.return_, 1) := by decide +kernel
theorem dX11_isSign_0 : decode cX11_isSign 0 = .ok (.aload_n 0, 1) := by decide +kernel
theorem dX11_isSign_1 : decode cX11_isSign 1 = .ok (.getfield 20, 3) := by decide +kernel
theorem dX11_isSign_4 : decode cX11_isSign 4 = .ok (.iconst 3, 1) := by decide +kernel
theorem dX11_isSign_5 : decode cX11_isSign 5 = .ok (.if_icmp .ne 15, 3) := by decide +kernel
theorem dX11_isSign_8 : decode cX11_isSign 8 = .ok (.aload_n 0, 1) := by decide +kernel
theorem dX11_isSign_9 : decode cX11_isSign 9 = .ok (.getfield 29, 3) := by decide +kernel
theorem dX11_isSign_12 : decode cX11_isSign 12 = .ok (.iload_n 1, 1) := by decide +kernel
theorem dX11_isSign_13 : decode cX11_isSign 13 = .ok (.if_icmp .ne 7, 3) := by decide +kernel
theorem dX11_isSign_16 : decode cX11_isSign 16 = .ok (.iconst 1, 1) := by decide +kernel
theorem dX11_isSign_17 : decode cX11_isSign 17 = .ok (.goto 4, 3) := by decide +kernel
theorem dX11_isSign_20 : decode cX11_isSign 20 = .ok (.iconst 0, 1) := by decide +kernel
theorem dX11_isSign_21 : decode cX11_isSign 21 = .ok (.ireturn, 1) := by decide +kernel
theorem dX11_isWord_0 : decode cX11_isWord 0 = .ok (.aload_n 0, 1) := by decide +kernel
theorem dX11_isWord_1 : decode cX11_isWord 1 = .ok (.getfield 20, 3) := by decide +kernel
theorem dX11_isWord_4 : decode cX11_isWord 4 = .ok (.iconst 1, 1) := by decide +kernel
theorem dX11_isWord_5 : decode cX11_isWord 5 = .ok (.if_icmp .ne 16, 3) := by decide +kernel
theorem dX11_isWord_8 : decode cX11_isWord 8 = .ok (.aload_n 0, 1) := by decide +kernel
theorem dX11_isWord_9 : decode cX11_isWord 9 = .ok (.getfield 32, 3) := by decide +kernel
theorem dX11_isWord_12 : decode cX11_isWord 12 = .ok (.lload_n 1, 1) := by decide +kernel
theorem dX11_isWord_13 : decode cX11_isWord 13 = .ok (.lcmp, 1) := by decide +kernel
theorem dX11_isWord_14 : decode cX11_isWord 14 = .ok (.ifCond .ne 7, 3) := by decide +kernel
theorem dX11_isWord_17 : decode cX11_isWord 17 = .ok (.iconst 1, 1) := by decide +kernel
theorem dX11_isWord_18 : decode cX11_isWord 18 = .ok (.goto 4, 3) := by decide +kernel
theorem dX11_isWord_21 : decode cX11_isWord 21 = .ok (.iconst 0, 1) := by decide +kernel
theorem dX11_isWord_22 : decode cX11_isWord 22 = .ok (.ireturn, 1) := by decide +kernel
theorem dX11_must_0 : decode cX11_must 0 = .ok (.aload_n 0, 1) := by decide +kernel
theorem dX11_must_1 : decode cX11_must 1 = .ok (.invokevirtual 232, 3) := by decide +kernel
theorem dX11_must_4 : decode cX11_must 4 = .ok (.aload_n 0, 1) := by decide +kernel
theorem dX11_must_5 : decode cX11_must 5 = .ok (.iload_n 1, 1) := by decide +kernel
theorem dX11_must_6 : decode cX11_must 6 = .ok (.invokevirtual 235, 3) := by decide +kernel
theorem dX11_must_9 : decode cX11_must 9 = .ok (.ifCond .ne 12, 3) := by decide +kernel
theorem dX11_must_12 : decode cX11_must 12 = .ok (.aload_n 0, 1) := by decide +kernel
theorem dX11_must_13 : decode cX11_must 13 = .ok (.iconst 1, 1) := by decide +kernel
theorem dX11_must_14 : decode cX11_must 14 = .ok (.aload_n 0, 1) := by decide +kernel
theorem dX11_must_15 : decode cX11_must 15 = .ok (.getfield 23, 3) := by decide +kernel
theorem dX11_must_18 : decode cX11_must 18 = .ok (.invokevirtual 221, 3) := by decide +kernel
theorem dX11_must_21 : decode cX11_must 21 = .ok (.aload_n 0, 1) := by decide +kernel
theorem dX11_must_22 : decode cX11_must 22 = .ok (.getfield 36, 3) := by decide +kernel

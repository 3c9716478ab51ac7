theorem zl_swrow : decode cL_law 33 = .ok (.tableswitch 992 0 30 #[139, 202, 225, 238, 261, 284, 317, 360, 393, 416, 469, 502, 515, 538, 561, 604, 637, 660, 673, 696, 719, 742, 785, 818, 851, 864, 887, 920, 933, 956, 969], 139) := by decide +kernel
theorem dL_law_0 : decode cL_law 0 = .ok (.new 7, 3) := by decide +kernel
theorem dL_law_3 : decode cL_law 3 = .ok (.dup, 1) := by decide +kernel
theorem dL_law_4 : decode cL_law 4 = .ok (.invokespecial 9, 3) := by decide +kernel
theorem dL_law_7 : decode cL_law 7 = .ok (.astore_n 1, 1) := by decide +kernel
theorem dL_law_8 : decode cL_law 8 = .ok (.new 10, 3) := by decide +kernel
theorem dL_law_11 : decode cL_law 11 = .ok (.dup, 1) := by decide +kernel
theorem dL_law_12 : decode cL_law 12 = .ok (.invokespecial 12, 3) := by decide +kernel
theorem dL_law_15 : decode cL_law 15 = .ok (.astore_n 2, 1) := by decide +kernel
theorem dL_law_16 : decode cL_law 16 = .ok (.iconst 0, 1) := by decide +kernel
theorem dL_law_17 : decode cL_law 17 = .ok (.istore_n 3, 1) := by decide +kernel
theorem dL_law_18 : decode cL_law 18 = .ok (.iload_n 3, 1) := by decide +kernel
theorem dL_law_19 : decode cL_law 19 = .ok (.aload_n 0, 1) := by decide +kernel
theorem dL_law_20 : decode cL_law 20 = .ok (.arraylength, 1) := by decide +kernel
theorem dL_law_21 : decode cL_law 21 = .ok (.bipush 6, 2) := by decide +kernel
theorem dL_law_23 : decode cL_law 23 = .ok (.isub, 1) := by decide +kernel
theorem dL_law_24 : decode cL_law 24 = .ok (.if_icmp .gt 1007, 3) := by decide +kernel
theorem dL_law_27 : decode cL_law 27 = .ok (.aload_n 0, 1) := by decide +kernel
theorem dL_law_28 : decode cL_law 28 = .ok (.iload_n 3, 1) := by decide +kernel
theorem dL_law_29 : decode cL_law 29 = .ok (.iaload, 1) := by decide +kernel
theorem dL_law_30 : decode cL_law 30 = .ok (.bipush 31, 2) := by decide +kernel
theorem dL_law_32 : decode cL_law 32 = .ok (.iand, 1) := by decide +kernel
theorem dL_law_172 : decode cL_law 172 = .ok (.aload_n 1, 1) := by decide +kernel
theorem dL_law_173 : decode cL_law 173 = .ok (.aload_n 0, 1) := by decide +kernel
theorem dL_law_174 : decode cL_law 174 = .ok (.iload_n 3, 1) := by decide +kernel
theorem dL_law_175 : decode cL_law 175 = .ok (.iconst 1, 1) := by decide +kernel
theorem dL_law_176 : decode cL_law 176 = .ok (.iadd, 1) := by decide +kernel
theorem dL_law_177 : decode cL_law 177 = .ok (.iaload, 1) := by decide +kernel
theorem dL_law_178 : decode cL_law 178 = .ok (.aload_n 0, 1) := by decide +kernel
theorem dL_law_179 : decode cL_law 179 = .ok (.iload_n 3, 1) := by decide +kernel
theorem dL_law_180 : decode cL_law 180 = .ok (.iconst 2, 1) := by decide +kernel
theorem dL_law_181 : decode cL_law 181 = .ok (.iadd, 1) := by decide +kernel
theorem dL_law_182 : decode cL_law 182 = .ok (.iaload, 1) := by decide +kernel
theorem dL_law_183 : decode cL_law 183 = .ok (.aload_n 0, 1) := by decide +kernel
theorem dL_law_184 : decode cL_law 184 = .ok (.iload_n 3, 1) := by decide +kernel
theorem dL_law_185 : decode cL_law 185 = .ok (.iconst 3, 1) := by decide +kernel
theorem dL_law_186 : decode cL_law 186 = .ok (.iadd, 1) := by decide +kernel
theorem dL_law_187 : decode cL_law 187 = .ok (.iaload, 1) := by decide +kernel
theorem dL_law_188 : decode cL_law 188 = .ok (.aload_n 0, 1) := by decide +kernel
theorem dL_law_189 : decode cL_law 189 = .ok (.iload_n 3, 1) := by decide +kernel
theorem dL_law_190 : decode cL_law 190 = .ok (.iconst 4, 1) := by decide +kernel
theorem dL_law_191 : decode cL_law 191 = .ok (.iadd, 1) := by decide +kernel
theorem dL_law_192 : decode cL_law 192 = .ok (.iaload, 1) := by decide +kernel
theorem dL_law_193 : decode cL_law 193 = .ok (.aload_n 0, 1) := by decide +kernel
theorem dL_law_194 : decode cL_law 194 = .ok (.iload_n 3, 1) := by decide +kernel
theorem dL_law_195 : decode cL_law 195 = .ok (.iconst 5, 1) := by decide +kernel
theorem dL_law_196 : decode cL_law 196 = .ok (.iadd, 1) := by decide +kernel
theorem dL_law_197 : decode cL_law 197 = .ok (.iaload, 1) := by decide +kernel
theorem dL_law_198 : decode cL_law 198 = .ok (.invokevirtual 13, 3) := by decide +kernel
theorem dL_law_201 : decode cL_law 201 = .ok (.aload_n 2, 1) := by decide +kernel
theorem dL_law_202 : decode cL_law 202 = .ok (.aload_n 0, 1) := by decide +kernel
theorem dL_law_203 : decode cL_law 203 = .ok (.iload_n 3, 1) := by decide +kernel
theorem dL_law_204 : decode cL_law 204 = .ok (.iconst 1, 1) := by decide +kernel
theorem dL_law_205 : decode cL_law 205 = .ok (.iadd, 1) := by decide +kernel
theorem dL_law_206 : decode cL_law 206 = .ok (.iaload, 1) := by decide +kernel
theorem dL_law_207 : decode cL_law 207 = .ok (.aload_n 0, 1) := by decide +kernel
theorem dL_law_208 : decode cL_law 208 = .ok (.iload_n 3, 1) := by decide +kernel
theorem dL_law_209 : decode cL_law 209 = .ok (.iconst 2, 1) := by decide +kernel
theorem dL_law_210 : decode cL_law 210 = .ok (.iadd, 1) := by decide +kernel
theorem dL_law_211 : decode cL_law 211 = .ok (.iaload, 1) := by decide +kernel
theorem dL_law_212 : decode cL_law 212 = .ok (.aload_n 0, 1) := by decide +kernel
theorem dL_law_213 : decode cL_law 213 = .ok (.iload_n 3, 1) := by decide +kernel
theorem dL_law_214 : decode cL_law 214 = .ok (.iconst 3, 1) := by decide +kernel
theorem dL_law_215 : decode cL_law 215 = .ok (.iadd, 1) := by decide +kernel
theorem dL_law_216 : decode cL_law 216 = .ok (.iaload, 1) := by decide +kernel
theorem dL_law_217 : decode cL_law 217 = .ok (.aload_n 0, 1) := by decide +kernel
theorem dL_law_218 : decode cL_law 218 = .ok (.iload_n 3, 1) := by decide +kernel
theorem dL_law_219 : decode cL_law 219 = .ok (.iconst 4, 1) := by decide +kernel
theorem dL_law_220 : decode cL_law 220 = .ok (.iadd, 1) := by decide +kernel
theorem dL_law_221 : decode cL_law 221 = .ok (.iaload, 1) := by decide +kernel
theorem dL_law_222 : decode cL_law 222 = .ok (.aload_n 0, 1) := by decide +kernel
theorem dL_law_223 : decode cL_law 223 = .ok (.iload_n 3, 1) := by decide +kernel
theorem dL_law_224 : decode cL_law 224 = .ok (.iconst 5, 1) := by decide +kernel
theorem dL_law_225 : decode cL_law 225 = .ok (.iadd, 1) := by decide +kernel
theorem dL_law_226 : decode cL_law 226 = .ok (.iaload, 1) := by decide +kernel
theorem dL_law_227 : decode cL_law 227 = .ok (.invokevirtual 17, 3) := by decide +kernel
theorem dL_law_230 : decode cL_law 230 = .ok (.if_icmp .eq 795, 3) := by decide +kernel
theorem dL_law_233 : decode cL_law 233 = .ok (.iconst 0, 1) := by decide +kernel
theorem dL_law_234 : decode cL_law 234 = .ok (.ireturn, 1) := by decide +kernel
theorem dL_law_235 : decode cL_law 235 = .ok (.aload_n 1, 1) := by decide +kernel
theorem dL_law_236 : decode cL_law 236 = .ok (.aload_n 0, 1) := by decide +kernel
theorem dL_law_237 : decode cL_law 237 = .ok (.iload_n 3, 1) := by decide +kernel
theorem dL_law_238 : decode cL_law 238 = .ok (.iconst 1, 1) := by decide +kernel
theorem dL_law_239 : decode cL_law 239 = .ok (.iadd, 1) := by decide +kernel
theorem dL_law_240 : decode cL_law 240 = .ok (.iaload, 1) := by decide +kernel
theorem dL_law_241 : decode cL_law 241 = .ok (.invokevirtual 18, 3) := by decide +kernel
theorem dL_law_244 : decode cL_law 244 = .ok (.aload_n 2, 1) := by decide +kernel
theorem dL_law_245 : decode cL_law 245 = .ok (.aload_n 0, 1) := by decide +kernel
theorem dL_law_246 : decode cL_law 246 = .ok (.iload_n 3, 1) := by decide +kernel
theorem dL_law_247 : decode cL_law 247 = .ok (.iconst 1, 1) := by decide +kernel
theorem dL_law_248 : decode cL_law 248 = .ok (.iadd, 1) := by decide +kernel
theorem dL_law_249 : decode cL_law 249 = .ok (.iaload, 1) := by decide +kernel
theorem dL_law_250 : decode cL_law 250 = .ok (.invokevirtual 22, 3) := by decide +kernel
theorem dL_law_253 : decode cL_law 253 = .ok (.if_icmp .eq 772, 3) := by decide +kernel
theorem dL_law_256 : decode cL_law 256 = .ok (.iconst 0, 1) := by decide +kernel
theorem dL_law_257 : decode cL_law 257 = .ok (.ireturn, 1) := by decide +kernel
theorem dL_law_258 : decode cL_law 258 = .ok (.aload_n 1, 1) := by decide +kernel
theorem dL_law_259 : decode cL_law 259 = .ok (.invokevirtual 23, 3) := by decide +kernel
theorem dL_law_262 : decode cL_law 262 = .ok (.aload_n 2, 1) := by decide +kernel
theorem dL_law_263 : decode cL_law 263 = .ok (.invokevirtual 27, 3) := by decide +kernel
theorem dL_law_266 : decode cL_law 266 = .ok (.if_icmp .eq 759, 3) := by decide +kernel
theorem dL_law_269 : decode cL_law 269 = .ok (.iconst 0, 1) := by decide +kernel
theorem dL_law_270 : decode cL_law 270 = .ok (.ireturn, 1) := by decide +kernel
theorem dL_law_271 : decode cL_law 271 = .ok (.aload_n 1, 1) := by decide +kernel
theorem dL_law_272 : decode cL_law 272 = .ok (.aload_n 0, 1) := by decide +kernel
theorem dL_law_273 : decode cL_law 273 = .ok (.iload_n 3, 1) := by decide +kernel
theorem dL_law_274 : decode cL_law 274 = .ok (.iconst 1, 1) := by decide +kernel
theorem dL_law_275 : decode cL_law 275 = .ok (.iadd, 1) := by decide +kernel
theorem dL_law_276 : decode cL_law 276 = .ok (.iaload, 1) := by decide +kernel
theorem dL_law_277 : decode cL_law 277 = .ok (.invokevirtual 28, 3) := by decide +kernel
theorem dL_law_280 : decode cL_law 280 = .ok (.aload_n 2, 1) := by decide +kernel
theorem dL_law_281 : decode cL_law 281 = .ok (.aload_n 0, 1) := by decide +kernel
theorem dL_law_282 : decode cL_law 282 = .ok (.iload_n 3, 1) := by decide +kernel
theorem dL_law_283 : decode cL_law 283 = .ok (.iconst 1, 1) := by decide +kernel
theorem dL_law_284 : decode cL_law 284 = .ok (.iadd, 1) := by decide +kernel
theorem dL_law_285 : decode cL_law 285 = .ok (.iaload, 1) := by decide +kernel
theorem dL_law_286 : decode cL_law 286 = .ok (.invokevirtual 32, 3) := by decide +kernel
theorem dL_law_289 : decode cL_law 289 = .ok (.if_icmp .eq 736, 3) := by decide +kernel
theorem dL_law_292 : decode cL_law 292 = .ok (.iconst 0, 1) := by decide +kernel
theorem dL_law_293 : decode cL_law 293 = .ok (.ireturn, 1) := by decide +kernel
theorem dL_law_294 : decode cL_law 294 = .ok (.aload_n 1, 1) := by decide +kernel
theorem dL_law_295 : decode cL_law 295 = .ok (.aload_n 0, 1) := by decide +kernel
theorem dL_law_296 : decode cL_law 296 = .ok (.iload_n 3, 1) := by decide +kernel
theorem dL_law_297 : decode cL_law 297 = .ok (.iconst 1, 1) := by decide +kernel
theorem dL_law_298 : decode cL_law 298 = .ok (.iadd, 1) := by decide +kernel
theorem dL_law_299 : decode cL_law 299 = .ok (.iaload, 1) := by decide +kernel
theorem dL_law_300 : decode cL_law 300 = .ok (.invokevirtual 33, 3) := by decide +kernel
theorem dL_law_303 : decode cL_law 303 = .ok (.aload_n 2, 1) := by decide +kernel
theorem dL_law_304 : decode cL_law 304 = .ok (.aload_n 0, 1) := by decide +kernel
theorem dL_law_305 : decode cL_law 305 = .ok (.iload_n 3, 1) := by decide +kernel
theorem dL_law_306 : decode cL_law 306 = .ok (.iconst 1, 1) := by decide +kernel
theorem dL_law_307 : decode cL_law 307 = .ok (.iadd, 1) := by decide +kernel
theorem dL_law_308 : decode cL_law 308 = .ok (.iaload, 1) := by decide +kernel
theorem dL_law_309 : decode cL_law 309 = .ok (.invokevirtual 36, 3) := by decide +kernel
theorem dL_law_312 : decode cL_law 312 = .ok (.if_icmp .eq 713, 3) := by decide +kernel
theorem dL_law_315 : decode cL_law 315 = .ok (.iconst 0, 1) := by decide +kernel
theorem dL_law_316 : decode cL_law 316 = .ok (.ireturn, 1) := by decide +kernel
theorem dL_law_317 : decode cL_law 317 = .ok (.aload_n 1, 1) := by decide +kernel
theorem dL_law_318 : decode cL_law 318 = .ok (.aload_n 0, 1) := by decide +kernel
theorem dL_law_319 : decode cL_law 319 = .ok (.iload_n 3, 1) := by decide +kernel
theorem dL_law_320 : decode cL_law 320 = .ok (.iconst 1, 1) := by decide +kernel
theorem dL_law_321 : decode cL_law 321 = .ok (.iadd, 1) := by decide +kernel
theorem dL_law_322 : decode cL_law 322 = .ok (.iaload, 1) := by decide +kernel
theorem dL_law_323 : decode cL_law 323 = .ok (.aload_n 0, 1) := by decide +kernel
theorem dL_law_324 : decode cL_law 324 = .ok (.iload_n 3, 1) := by decide +kernel
theorem dL_law_325 : decode cL_law 325 = .ok (.iconst 2, 1) := by decide +kernel
theorem dL_law_326 : decode cL_law 326 = .ok (.iadd, 1) := by decide +kernel
theorem dL_law_327 : decode cL_law 327 = .ok (.iaload, 1) := by decide +kernel
theorem dL_law_328 : decode cL_law 328 = .ok (.invokevirtual 37, 3) := by decide +kernel
theorem dL_law_331 : decode cL_law 331 = .ok (.aload_n 2, 1) := by decide +kernel
theorem dL_law_332 : decode cL_law 332 = .ok (.aload_n 0, 1) := by decide +kernel
theorem dL_law_333 : decode cL_law 333 = .ok (.iload_n 3, 1) := by decide +kernel
theorem dL_law_334 : decode cL_law 334 = .ok (.iconst 1, 1) := by decide +kernel
theorem dL_law_335 : decode cL_law 335 = .ok (.iadd, 1) := by decide +kernel
theorem dL_law_336 : decode cL_law 336 = .ok (.iaload, 1) := by decide +kernel
theorem dL_law_337 : decode cL_law 337 = .ok (.aload_n 0, 1) := by decide +kernel
theorem dL_law_338 : decode cL_law 338 = .ok (.iload_n 3, 1) := by decide +kernel
theorem dL_law_339 : decode cL_law 339 = .ok (.iconst 2, 1) := by decide +kernel
theorem dL_law_340 : decode cL_law 340 = .ok (.iadd, 1) := by decide +kernel
theorem dL_law_341 : decode cL_law 341 = .ok (.iaload, 1) := by decide +kernel
theorem dL_law_342 : decode cL_law 342 = .ok (.invokevirtual 41, 3) := by decide +kernel
theorem dL_law_345 : decode cL_law 345 = .ok (.if_icmp .eq 680, 3) := by decide +kernel
theorem dL_law_348 : decode cL_law 348 = .ok (.iconst 0, 1) := by decide +kernel
theorem dL_law_349 : decode cL_law 349 = .ok (.ireturn, 1) := by decide +kernel
theorem dL_law_350 : decode cL_law 350 = .ok (.aload_n 1, 1) := by decide +kernel
theorem dL_law_351 : decode cL_law 351 = .ok (.aload_n 0, 1) := by decide +kernel
theorem dL_law_352 : decode cL_law 352 = .ok (.iload_n 3, 1) := by decide +kernel
theorem dL_law_353 : decode cL_law 353 = .ok (.iconst 1, 1) := by decide +kernel
theorem dL_law_354 : decode cL_law 354 = .ok (.iadd, 1) := by decide +kernel
theorem dL_law_355 : decode cL_law 355 = .ok (.iaload, 1) := by decide +kernel
theorem dL_law_356 : decode cL_law 356 = .ok (.aload_n 0, 1) := by decide +kernel
theorem dL_law_357 : decode cL_law 357 = .ok (.iload_n 3, 1) := by decide +kernel
theorem dL_law_358 : decode cL_law 358 = .ok (.iconst 2, 1) := by decide +kernel
theorem dL_law_359 : decode cL_law 359 = .ok (.iadd, 1) := by decide +kernel
theorem dL_law_360 : decode cL_law 360 = .ok (.iaload, 1) := by decide +kernel
theorem dL_law_361 : decode cL_law 361 = .ok (.aload_n 0, 1) := by decide +kernel
theorem dL_law_362 : decode cL_law 362 = .ok (.iload_n 3, 1) := by decide +kernel
theorem dL_law_363 : decode cL_law 363 = .ok (.iconst 3, 1) := by decide +kernel
theorem dL_law_364 : decode cL_law 364 = .ok (.iadd, 1) := by decide +kernel
theorem dL_law_365 : decode cL_law 365 = .ok (.iaload, 1) := by decide +kernel
theorem dL_law_366 : decode cL_law 366 = .ok (.invokevirtual 42, 3) := by decide +kernel
theorem dL_law_369 : decode cL_law 369 = .ok (.aload_n 2, 1) := by decide +kernel
theorem dL_law_370 : decode cL_law 370 = .ok (.aload_n 0, 1) := by decide +kernel
theorem dL_law_371 : decode cL_law 371 = .ok (.iload_n 3, 1) := by decide +kernel
theorem dL_law_372 : decode cL_law 372 = .ok (.iconst 1, 1) := by decide +kernel
theorem dL_law_373 : decode cL_law 373 = .ok (.iadd, 1) := by decide +kernel
theorem dL_law_374 : decode cL_law 374 = .ok (.iaload, 1) := by decide +kernel
theorem dL_law_375 : decode cL_law 375 = .ok (.aload_n 0, 1) := by decide +kernel
theorem dL_law_376 : decode cL_law 376 = .ok (.iload_n 3, 1) := by decide +kernel
theorem dL_law_377 : decode cL_law 377 = .ok (.iconst 2, 1) := by decide +kernel
theorem dL_law_378 : decode cL_law 378 = .ok (.iadd, 1) := by decide +kernel
theorem dL_law_379 : decode cL_law 379 = .ok (.iaload, 1) := by decide +kernel
theorem dL_law_380 : decode cL_law 380 = .ok (.aload_n 0, 1) := by decide +kernel
theorem dL_law_381 : decode cL_law 381 = .ok (.iload_n 3, 1) := by decide +kernel
theorem dL_law_382 : decode cL_law 382 = .ok (.iconst 3, 1) := by decide +kernel
theorem dL_law_383 : decode cL_law 383 = .ok (.iadd, 1) := by decide +kernel
theorem dL_law_384 : decode cL_law 384 = .ok (.iaload, 1) := by decide +kernel
theorem dL_law_385 : decode cL_law 385 = .ok (.invokevirtual 46, 3) := by decide +kernel
theorem dL_law_388 : decode cL_law 388 = .ok (.if_icmp .eq 637, 3) := by decide +kernel
theorem dL_law_391 : decode cL_law 391 = .ok (.iconst 0, 1) := by decide +kernel
theorem dL_law_392 : decode cL_law 392 = .ok (.ireturn, 1) := by decide +kernel
theorem dL_law_393 : decode cL_law 393 = .ok (.aload_n 1, 1) := by decide +kernel
theorem dL_law_394 : decode cL_law 394 = .ok (.aload_n 0, 1) := by decide +kernel
theorem dL_law_395 : decode cL_law 395 = .ok (.iload_n 3, 1) := by decide +kernel
theorem dL_law_396 : decode cL_law 396 = .ok (.iconst 1, 1) := by decide +kernel
theorem dL_law_397 : decode cL_law 397 = .ok (.iadd, 1) := by decide +kernel
theorem dL_law_398 : decode cL_law 398 = .ok (.iaload, 1) := by decide +kernel
theorem dL_law_399 : decode cL_law 399 = .ok (.aload_n 0, 1) := by decide +kernel
theorem dL_law_400 : decode cL_law 400 = .ok (.iload_n 3, 1) := by decide +kernel
theorem dL_law_401 : decode cL_law 401 = .ok (.iconst 2, 1) := by decide +kernel
theorem dL_law_402 : decode cL_law 402 = .ok (.iadd, 1) := by decide +kernel
theorem dL_law_403 : decode cL_law 403 = .ok (.iaload, 1) := by decide +kernel
theorem dL_law_404 : decode cL_law 404 = .ok (.invokevirtual 47, 3) := by decide +kernel
theorem dL_law_407 : decode cL_law 407 = .ok (.aload_n 2, 1) := by decide +kernel
theorem dL_law_408 : decode cL_law 408 = .ok (.aload_n 0, 1) := by decide +kernel
theorem dL_law_409 : decode cL_law 409 = .ok (.iload_n 3, 1) := by decide +kernel
theorem dL_law_410 : decode cL_law 410 = .ok (.iconst 1, 1) := by decide +kernel
theorem dL_law_411 : decode cL_law 411 = .ok (.iadd, 1) := by decide +kernel
theorem dL_law_412 : decode cL_law 412 = .ok (.iaload, 1) := by decide +kernel
theorem dL_law_413 : decode cL_law 413 = .ok (.aload_n 0, 1) := by decide +kernel
theorem dL_law_414 : decode cL_law 414 = .ok (.iload_n 3, 1) := by decide +kernel
theorem dL_law_415 : decode cL_law 415 = .ok (.iconst 2, 1) := by decide +kernel
theorem dL_law_416 : decode cL_law 416 = .ok (.iadd, 1) := by decide +kernel
theorem dL_law_417 : decode cL_law 417 = .ok (.iaload, 1) := by decide +kernel
theorem dL_law_418 : decode cL_law 418 = .ok (.invokevirtual 50, 3) := by decide +kernel
theorem dL_law_421 : decode cL_law 421 = .ok (.if_icmp .eq 604, 3) := by decide +kernel
theorem dL_law_424 : decode cL_law 424 = .ok (.iconst 0, 1) := by decide +kernel
theorem dL_law_425 : decode cL_law 425 = .ok (.ireturn, 1) := by decide +kernel
theorem dL_law_426 : decode cL_law 426 = .ok (.aload_n 1, 1) := by decide +kernel
theorem dL_law_427 : decode cL_law 427 = .ok (.aload_n 0, 1) := by decide +kernel
theorem dL_law_428 : decode cL_law 428 = .ok (.iload_n 3, 1) := by decide +kernel
theorem dL_law_429 : decode cL_law 429 = .ok (.iconst 1, 1) := by decide +kernel
theorem dL_law_430 : decode cL_law 430 = .ok (.iadd, 1) := by decide +kernel
theorem dL_law_431 : decode cL_law 431 = .ok (.iaload, 1) := by decide +kernel
theorem dL_law_432 : decode cL_law 432 = .ok (.invokevirtual 51, 3) := by decide +kernel
theorem dL_law_435 : decode cL_law 435 = .ok (.aload_n 2, 1) := by decide +kernel
theorem dL_law_436 : decode cL_law 436 = .ok (.aload_n 0, 1) := by decide +kernel
theorem dL_law_437 : decode cL_law 437 = .ok (.iload_n 3, 1) := by decide +kernel
theorem dL_law_438 : decode cL_law 438 = .ok (.iconst 1, 1) := by decide +kernel
theorem dL_law_439 : decode cL_law 439 = .ok (.iadd, 1) := by decide +kernel
theorem dL_law_440 : decode cL_law 440 = .ok (.iaload, 1) := by decide +kernel
theorem dL_law_441 : decode cL_law 441 = .ok (.invokevirtual 54, 3) := by decide +kernel
theorem dL_law_444 : decode cL_law 444 = .ok (.if_icmp .eq 581, 3) := by decide +kernel
theorem dL_law_447 : decode cL_law 447 = .ok (.iconst 0, 1) := by decide +kernel
theorem dL_law_448 : decode cL_law 448 = .ok (.ireturn, 1) := by decide +kernel
theorem dL_law_449 : decode cL_law 449 = .ok (.aload_n 1, 1) := by decide +kernel
theorem dL_law_450 : decode cL_law 450 = .ok (.aload_n 0, 1) := by decide +kernel
theorem dL_law_451 : decode cL_law 451 = .ok (.iload_n 3, 1) := by decide +kernel
theorem dL_law_452 : decode cL_law 452 = .ok (.iconst 1, 1) := by decide +kernel
theorem dL_law_453 : decode cL_law 453 = .ok (.iadd, 1) := by decide +kernel
theorem dL_law_454 : decode cL_law 454 = .ok (.iaload, 1) := by decide +kernel
theorem dL_law_455 : decode cL_law 455 = .ok (.aload_n 0, 1) := by decide +kernel
theorem dL_law_456 : decode cL_law 456 = .ok (.iload_n 3, 1) := by decide +kernel
theorem dL_law_457 : decode cL_law 457 = .ok (.iconst 2, 1) := by decide +kernel
theorem dL_law_458 : decode cL_law 458 = .ok (.iadd, 1) := by decide +kernel
theorem dL_law_459 : decode cL_law 459 = .ok (.iaload, 1) := by decide +kernel
theorem dL_law_460 : decode cL_law 460 = .ok (.aload_n 0, 1) := by decide +kernel
theorem dL_law_461 : decode cL_law 461 = .ok (.iload_n 3, 1) := by decide +kernel
theorem dL_law_462 : decode cL_law 462 = .ok (.iconst 3, 1) := by decide +kernel
theorem dL_law_463 : decode cL_law 463 = .ok (.iadd, 1) := by decide +kernel
theorem dL_law_464 : decode cL_law 464 = .ok (.iaload, 1) := by decide +kernel
theorem dL_law_465 : decode cL_law 465 = .ok (.aload_n 0, 1) := by decide +kernel
theorem dL_law_466 : decode cL_law 466 = .ok (.iload_n 3, 1) := by decide +kernel
theorem dL_law_467 : decode cL_law 467 = .ok (.iconst 4, 1) := by decide +kernel
theorem dL_law_468 : decode cL_law 468 = .ok (.iadd, 1) := by decide +kernel
theorem dL_law_469 : decode cL_law 469 = .ok (.iaload, 1) := by decide +kernel
theorem dL_law_470 : decode cL_law 470 = .ok (.invokevirtual 55, 3) := by decide +kernel
theorem dL_law_473 : decode cL_law 473 = .ok (.aload_n 2, 1) := by decide +kernel
theorem dL_law_474 : decode cL_law 474 = .ok (.aload_n 0, 1) := by decide +kernel
theorem dL_law_475 : decode cL_law 475 = .ok (.iload_n 3, 1) := by decide +kernel
theorem dL_law_476 : decode cL_law 476 = .ok (.iconst 1, 1) := by decide +kernel
theorem dL_law_477 : decode cL_law 477 = .ok (.iadd, 1) := by decide +kernel
theorem dL_law_478 : decode cL_law 478 = .ok (.iaload, 1) := by decide +kernel
theorem dL_law_479 : decode cL_law 479 = .ok (.aload_n 0, 1) := by decide +kernel
theorem dL_law_480 : decode cL_law 480 = .ok (.iload_n 3, 1) := by decide +kernel
theorem dL_law_481 : decode cL_law 481 = .ok (.iconst 2, 1) := by decide +kernel
theorem dL_law_482 : decode cL_law 482 = .ok (.iadd, 1) := by decide +kernel
theorem dL_law_483 : decode cL_law 483 = .ok (.iaload, 1) := by decide +kernel
theorem dL_law_484 : decode cL_law 484 = .ok (.aload_n 0, 1) := by decide +kernel
theorem dL_law_485 : decode cL_law 485 = .ok (.iload_n 3, 1) := by decide +kernel
theorem dL_law_486 : decode cL_law 486 = .ok (.iconst 3, 1) := by decide +kernel
theorem dL_law_487 : decode cL_law 487 = .ok (.iadd, 1) := by decide +kernel
theorem dL_law_488 : decode cL_law 488 = .ok (.iaload, 1) := by decide +kernel
theorem dL_law_489 : decode cL_law 489 = .ok (.aload_n 0, 1) := by decide +kernel
theorem dL_law_490 : decode cL_law 490 = .ok (.iload_n 3, 1) := by decide +kernel
theorem dL_law_491 : decode cL_law 491 = .ok (.iconst 4, 1) := by decide +kernel
theorem dL_law_492 : decode cL_law 492 = .ok (.iadd, 1) := by decide +kernel
theorem dL_law_493 : decode cL_law 493 = .ok (.iaload, 1) := by decide +kernel
theorem dL_law_494 : decode cL_law 494 = .ok (.invokevirtual 59, 3) := by decide +kernel
theorem dL_law_497 : decode cL_law 497 = .ok (.if_icmp .eq 528, 3) := by decide +kernel
theorem dL_law_500 : decode cL_law 500 = .ok (.iconst 0, 1) := by decide +kernel
theorem dL_law_501 : decode cL_law 501 = .ok (.ireturn, 1) := by decide +kernel
theorem dL_law_502 : decode cL_law 502 = .ok (.aload_n 1, 1) := by decide +kernel
theorem dL_law_503 : decode cL_law 503 = .ok (.aload_n 0, 1) := by decide +kernel
theorem dL_law_504 : decode cL_law 504 = .ok (.iload_n 3, 1) := by decide +kernel
theorem dL_law_505 : decode cL_law 505 = .ok (.iconst 1, 1) := by decide +kernel
theorem dL_law_506 : decode cL_law 506 = .ok (.iadd, 1) := by decide +kernel
theorem dL_law_507 : decode cL_law 507 = .ok (.iaload, 1) := by decide +kernel
theorem dL_law_508 : decode cL_law 508 = .ok (.aload_n 0, 1) := by decide +kernel
theorem dL_law_509 : decode cL_law 509 = .ok (.iload_n 3, 1) := by decide +kernel
theorem dL_law_510 : decode cL_law 510 = .ok (.iconst 2, 1) := by decide +kernel
theorem dL_law_511 : decode cL_law 511 = .ok (.iadd, 1) := by decide +kernel
theorem dL_law_512 : decode cL_law 512 = .ok (.iaload, 1) := by decide +kernel
theorem dL_law_513 : decode cL_law 513 = .ok (.invokevirtual 60, 3) := by decide +kernel
theorem dL_law_516 : decode cL_law 516 = .ok (.aload_n 2, 1) := by decide +kernel
theorem dL_law_517 : decode cL_law 517 = .ok (.aload_n 0, 1) := by decide +kernel
theorem dL_law_518 : decode cL_law 518 = .ok (.iload_n 3, 1) := by decide +kernel
theorem dL_law_519 : decode cL_law 519 = .ok (.iconst 1, 1) := by decide +kernel
theorem dL_law_520 : decode cL_law 520 = .ok (.iadd, 1) := by decide +kernel
theorem dL_law_521 : decode cL_law 521 = .ok (.iaload, 1) := by decide +kernel
theorem dL_law_522 : decode cL_law 522 = .ok (.aload_n 0, 1) := by decide +kernel
theorem dL_law_523 : decode cL_law 523 = .ok (.iload_n 3, 1) := by decide +kernel
theorem dL_law_524 : decode cL_law 524 = .ok (.iconst 2, 1) := by decide +kernel
theorem dL_law_525 : decode cL_law 525 = .ok (.iadd, 1) := by decide +kernel
theorem dL_law_526 : decode cL_law 526 = .ok (.iaload, 1) := by decide +kernel
theorem dL_law_527 : decode cL_law 527 = .ok (.invokevirtual 63, 3) := by decide +kernel
theorem dL_law_530 : decode cL_law 530 = .ok (.if_icmp .eq 495, 3) := by decide +kernel
theorem dL_law_533 : decode cL_law 533 = .ok (.iconst 0, 1) := by decide +kernel
theorem dL_law_534 : decode cL_law 534 = .ok (.ireturn, 1) := by decide +kernel
theorem dL_law_535 : decode cL_law 535 = .ok (.aload_n 1, 1) := by decide +kernel
theorem dL_law_536 : decode cL_law 536 = .ok (.invokevirtual 64, 3) := by decide +kernel
theorem dL_law_539 : decode cL_law 539 = .ok (.aload_n 2, 1) := by decide +kernel
theorem dL_law_540 : decode cL_law 540 = .ok (.invokevirtual 67, 3) := by decide +kernel
theorem dL_law_543 : decode cL_law 543 = .ok (.if_icmp .eq 482, 3) := by decide +kernel
theorem dL_law_546 : decode cL_law 546 = .ok (.iconst 0, 1) := by decide +kernel
theorem dL_law_547 : decode cL_law 547 = .ok (.ireturn, 1) := by decide +kernel
theorem dL_law_548 : decode cL_law 548 = .ok (.aload_n 1, 1) := by decide +kernel
theorem dL_law_549 : decode cL_law 549 = .ok (.aload_n 0, 1) := by decide +kernel
theorem dL_law_550 : decode cL_law 550 = .ok (.iload_n 3, 1) := by decide +kernel
theorem dL_law_551 : decode cL_law 551 = .ok (.iconst 1, 1) := by decide +kernel
theorem dL_law_552 : decode cL_law 552 = .ok (.iadd, 1) := by decide +kernel
theorem dL_law_553 : decode cL_law 553 = .ok (.iaload, 1) := by decide +kernel
theorem dL_law_554 : decode cL_law 554 = .ok (.invokevirtual 68, 3) := by decide +kernel
theorem dL_law_557 : decode cL_law 557 = .ok (.aload_n 2, 1) := by decide +kernel
theorem dL_law_558 : decode cL_law 558 = .ok (.aload_n 0, 1) := by decide +kernel
theorem dL_law_559 : decode cL_law 559 = .ok (.iload_n 3, 1) := by decide +kernel
theorem dL_law_560 : decode cL_law 560 = .ok (.iconst 1, 1) := by decide +kernel
theorem dL_law_561 : decode cL_law 561 = .ok (.iadd, 1) := by decide +kernel
theorem dL_law_562 : decode cL_law 562 = .ok (.iaload, 1) := by decide +kernel
theorem dL_law_563 : decode cL_law 563 = .ok (.invokevirtual 71, 3) := by decide +kernel
theorem dL_law_566 : decode cL_law 566 = .ok (.if_icmp .eq 459, 3) := by decide +kernel
theorem dL_law_569 : decode cL_law 569 = .ok (.iconst 0, 1) := by decide +kernel
theorem dL_law_570 : decode cL_law 570 = .ok (.ireturn, 1) := by decide +kernel
theorem dL_law_571 : decode cL_law 571 = .ok (.aload_n 1, 1) := by decide +kernel
theorem dL_law_572 : decode cL_law 572 = .ok (.aload_n 0, 1) := by decide +kernel
theorem dL_law_573 : decode cL_law 573 = .ok (.iload_n 3, 1) := by decide +kernel
theorem dL_law_574 : decode cL_law 574 = .ok (.iconst 1, 1) := by decide +kernel
theorem dL_law_575 : decode cL_law 575 = .ok (.iadd, 1) := by decide +kernel
theorem dL_law_576 : decode cL_law 576 = .ok (.iaload, 1) := by decide +kernel
theorem dL_law_577 : decode cL_law 577 = .ok (.invokevirtual 72, 3) := by decide +kernel
theorem dL_law_580 : decode cL_law 580 = .ok (.aload_n 2, 1) := by decide +kernel
theorem dL_law_581 : decode cL_law 581 = .ok (.aload_n 0, 1) := by decide +kernel
theorem dL_law_582 : decode cL_law 582 = .ok (.iload_n 3, 1) := by decide +kernel
theorem dL_law_583 : decode cL_law 583 = .ok (.iconst 1, 1) := by decide +kernel
theorem dL_law_584 : decode cL_law 584 = .ok (.iadd, 1) := by decide +kernel
theorem dL_law_585 : decode cL_law 585 = .ok (.iaload, 1) := by decide +kernel
theorem dL_law_586 : decode cL_law 586 = .ok (.invokevirtual 75, 3) := by decide +kernel
theorem dL_law_589 : decode cL_law 589 = .ok (.if_icmp .eq 436, 3) := by decide +kernel
theorem dL_law_592 : decode cL_law 592 = .ok (.iconst 0, 1) := by decide +kernel
theorem dL_law_593 : decode cL_law 593 = .ok (.ireturn, 1) := by decide +kernel
theorem dL_law_594 : decode cL_law 594 = .ok (.aload_n 1, 1) := by decide +kernel
theorem dL_law_595 : decode cL_law 595 = .ok (.aload_n 0, 1) := by decide +kernel
theorem dL_law_596 : decode cL_law 596 = .ok (.iload_n 3, 1) := by decide +kernel
theorem dL_law_597 : decode cL_law 597 = .ok (.iconst 1, 1) := by decide +kernel
theorem dL_law_598 : decode cL_law 598 = .ok (.iadd, 1) := by decide +kernel
theorem dL_law_599 : decode cL_law 599 = .ok (.iaload, 1) := by decide +kernel
theorem dL_law_600 : decode cL_law 600 = .ok (.aload_n 0, 1) := by decide +kernel
theorem dL_law_601 : decode cL_law 601 = .ok (.iload_n 3, 1) := by decide +kernel
theorem dL_law_602 : decode cL_law 602 = .ok (.iconst 2, 1) := by decide +kernel
theorem dL_law_603 : decode cL_law 603 = .ok (.iadd, 1) := by decide +kernel
theorem dL_law_604 : decode cL_law 604 = .ok (.iaload, 1) := by decide +kernel
theorem dL_law_605 : decode cL_law 605 = .ok (.aload_n 0, 1) := by decide +kernel
theorem dL_law_606 : decode cL_law 606 = .ok (.iload_n 3, 1) := by decide +kernel
theorem dL_law_607 : decode cL_law 607 = .ok (.iconst 3, 1) := by decide +kernel
theorem dL_law_608 : decode cL_law 608 = .ok (.iadd, 1) := by decide +kernel
theorem dL_law_609 : decode cL_law 609 = .ok (.iaload, 1) := by decide +kernel
theorem dL_law_610 : decode cL_law 610 = .ok (.invokevirtual 76, 3) := by decide +kernel
theorem dL_law_613 : decode cL_law 613 = .ok (.aload_n 2, 1) := by decide +kernel
theorem dL_law_614 : decode cL_law 614 = .ok (.aload_n 0, 1) := by decide +kernel
theorem dL_law_615 : decode cL_law 615 = .ok (.iload_n 3, 1) := by decide +kernel
theorem dL_law_616 : decode cL_law 616 = .ok (.iconst 1, 1) := by decide +kernel
theorem dL_law_617 : decode cL_law 617 = .ok (.iadd, 1) := by decide +kernel
theorem dL_law_618 : decode cL_law 618 = .ok (.iaload, 1) := by decide +kernel
theorem dL_law_619 : decode cL_law 619 = .ok (.aload_n 0, 1) := by decide +kernel
theorem dL_law_620 : decode cL_law 620 = .ok (.iload_n 3, 1) := by decide +kernel
theorem dL_law_621 : decode cL_law 621 = .ok (.iconst 2, 1) := by decide +kernel
theorem dL_law_622 : decode cL_law 622 = .ok (.iadd, 1) := by decide +kernel
theorem dL_law_623 : decode cL_law 623 = .ok (.iaload, 1) := by decide +kernel
theorem dL_law_624 : decode cL_law 624 = .ok (.aload_n 0, 1) := by decide +kernel
theorem dL_law_625 : decode cL_law 625 = .ok (.iload_n 3, 1) := by decide +kernel
theorem dL_law_626 : decode cL_law 626 = .ok (.iconst 3, 1) := by decide +kernel
theorem dL_law_627 : decode cL_law 627 = .ok (.iadd, 1) := by decide +kernel
theorem dL_law_628 : decode cL_law 628 = .ok (.iaload, 1) := by decide +kernel
theorem dL_law_629 : decode cL_law 629 = .ok (.invokevirtual 79, 3) := by decide +kernel
theorem dL_law_632 : decode cL_law 632 = .ok (.if_icmp .eq 393, 3) := by decide +kernel
theorem dL_law_635 : decode cL_law 635 = .ok (.iconst 0, 1) := by decide +kernel
theorem dL_law_636 : decode cL_law 636 = .ok (.ireturn, 1) := by decide +kernel
theorem dL_law_637 : decode cL_law 637 = .ok (.aload_n 1, 1) := by decide +kernel
theorem dL_law_638 : decode cL_law 638 = .ok (.aload_n 0, 1) := by decide +kernel
theorem dL_law_639 : decode cL_law 639 = .ok (.iload_n 3, 1) := by decide +kernel
theorem dL_law_640 : decode cL_law 640 = .ok (.iconst 1, 1) := by decide +kernel
theorem dL_law_641 : decode cL_law 641 = .ok (.iadd, 1) := by decide +kernel
theorem dL_law_642 : decode cL_law 642 = .ok (.iaload, 1) := by decide +kernel
theorem dL_law_643 : decode cL_law 643 = .ok (.aload_n 0, 1) := by decide +kernel
theorem dL_law_644 : decode cL_law 644 = .ok (.iload_n 3, 1) := by decide +kernel
theorem dL_law_645 : decode cL_law 645 = .ok (.iconst 2, 1) := by decide +kernel
theorem dL_law_646 : decode cL_law 646 = .ok (.iadd, 1) := by decide +kernel
theorem dL_law_647 : decode cL_law 647 = .ok (.iaload, 1) := by decide +kernel
theorem dL_law_648 : decode cL_law 648 = .ok (.invokevirtual 80, 3) := by decide +kernel
theorem dL_law_651 : decode cL_law 651 = .ok (.aload_n 2, 1) := by decide +kernel
theorem dL_law_652 : decode cL_law 652 = .ok (.aload_n 0, 1) := by decide +kernel
theorem dL_law_653 : decode cL_law 653 = .ok (.iload_n 3, 1) := by decide +kernel
theorem dL_law_654 : decode cL_law 654 = .ok (.iconst 1, 1) := by decide +kernel
theorem dL_law_655 : decode cL_law 655 = .ok (.iadd, 1) := by decide +kernel
theorem dL_law_656 : decode cL_law 656 = .ok (.iaload, 1) := by decide +kernel
theorem dL_law_657 : decode cL_law 657 = .ok (.aload_n 0, 1) := by decide +kernel
theorem dL_law_658 : decode cL_law 658 = .ok (.iload_n 3, 1) := by decide +kernel
theorem dL_law_659 : decode cL_law 659 = .ok (.iconst 2, 1) := by decide +kernel
theorem dL_law_660 : decode cL_law 660 = .ok (.iadd, 1) := by decide +kernel
theorem dL_law_661 : decode cL_law 661 = .ok (.iaload, 1) := by decide +kernel
theorem dL_law_662 : decode cL_law 662 = .ok (.invokevirtual 83, 3) := by decide +kernel
theorem dL_law_665 : decode cL_law 665 = .ok (.if_icmp .eq 360, 3) := by decide +kernel
theorem dL_law_668 : decode cL_law 668 = .ok (.iconst 0, 1) := by decide +kernel
theorem dL_law_669 : decode cL_law 669 = .ok (.ireturn, 1) := by decide +kernel
theorem dL_law_670 : decode cL_law 670 = .ok (.aload_n 1, 1) := by decide +kernel
theorem dL_law_671 : decode cL_law 671 = .ok (.aload_n 0, 1) := by decide +kernel
theorem dL_law_672 : decode cL_law 672 = .ok (.iload_n 3, 1) := by decide +kernel
theorem dL_law_673 : decode cL_law 673 = .ok (.iconst 1, 1) := by decide +kernel
theorem dL_law_674 : decode cL_law 674 = .ok (.iadd, 1) := by decide +kernel
theorem dL_law_675 : decode cL_law 675 = .ok (.iaload, 1) := by decide +kernel
theorem dL_law_676 : decode cL_law 676 = .ok (.invokevirtual 84, 3) := by decide +kernel
theorem dL_law_679 : decode cL_law 679 = .ok (.aload_n 2, 1) := by decide +kernel
theorem dL_law_680 : decode cL_law 680 = .ok (.aload_n 0, 1) := by decide +kernel
theorem dL_law_681 : decode cL_law 681 = .ok (.iload_n 3, 1) := by decide +kernel
theorem dL_law_682 : decode cL_law 682 = .ok (.iconst 1, 1) := by decide +kernel
theorem dL_law_683 : decode cL_law 683 = .ok (.iadd, 1) := by decide +kernel
theorem dL_law_684 : decode cL_law 684 = .ok (.iaload, 1) := by decide +kernel
theorem dL_law_685 : decode cL_law 685 = .ok (.invokevirtual 87, 3) := by decide +kernel
theorem dL_law_688 : decode cL_law 688 = .ok (.if_icmp .eq 337, 3) := by decide +kernel
theorem dL_law_691 : decode cL_law 691 = .ok (.iconst 0, 1) := by decide +kernel
theorem dL_law_692 : decode cL_law 692 = .ok (.ireturn, 1) := by decide +kernel
theorem dL_law_693 : decode cL_law 693 = .ok (.aload_n 1, 1) := by decide +kernel
theorem dL_law_694 : decode cL_law 694 = .ok (.invokevirtual 88, 3) := by decide +kernel
theorem dL_law_697 : decode cL_law 697 = .ok (.aload_n 2, 1) := by decide +kernel
theorem dL_law_698 : decode cL_law 698 = .ok (.invokevirtual 91, 3) := by decide +kernel
theorem dL_law_701 : decode cL_law 701 = .ok (.if_icmp .eq 324, 3) := by decide +kernel
theorem dL_law_704 : decode cL_law 704 = .ok (.iconst 0, 1) := by decide +kernel
theorem dL_law_705 : decode cL_law 705 = .ok (.ireturn, 1) := by decide +kernel
theorem dL_law_706 : decode cL_law 706 = .ok (.aload_n 1, 1) := by decide +kernel
theorem dL_law_707 : decode cL_law 707 = .ok (.aload_n 0, 1) := by decide +kernel
theorem dL_law_708 : decode cL_law 708 = .ok (.iload_n 3, 1) := by decide +kernel
theorem dL_law_709 : decode cL_law 709 = .ok (.iconst 1, 1) := by decide +kernel
theorem dL_law_710 : decode cL_law 710 = .ok (.iadd, 1) := by decide +kernel
theorem dL_law_711 : decode cL_law 711 = .ok (.iaload, 1) := by decide +kernel
theorem dL_law_712 : decode cL_law 712 = .ok (.invokevirtual 92, 3) := by decide +kernel
theorem dL_law_715 : decode cL_law 715 = .ok (.aload_n 2, 1) := by decide +kernel
theorem dL_law_716 : decode cL_law 716 = .ok (.aload_n 0, 1) := by decide +kernel
theorem dL_law_717 : decode cL_law 717 = .ok (.iload_n 3, 1) := by decide +kernel
theorem dL_law_718 : decode cL_law 718 = .ok (.iconst 1, 1) := by decide +kernel
theorem dL_law_719 : decode cL_law 719 = .ok (.iadd, 1) := by decide +kernel
theorem dL_law_720 : decode cL_law 720 = .ok (.iaload, 1) := by decide +kernel
theorem dL_law_721 : decode cL_law 721 = .ok (.invokevirtual 95, 3) := by decide +kernel
theorem dL_law_724 : decode cL_law 724 = .ok (.if_icmp .eq 301, 3) := by decide +kernel
theorem dL_law_727 : decode cL_law 727 = .ok (.iconst 0, 1) := by decide +kernel
theorem dL_law_728 : decode cL_law 728 = .ok (.ireturn, 1) := by decide +kernel
theorem dL_law_729 : decode cL_law 729 = .ok (.aload_n 1, 1) := by decide +kernel
theorem dL_law_730 : decode cL_law 730 = .ok (.aload_n 0, 1) := by decide +kernel
theorem dL_law_731 : decode cL_law 731 = .ok (.iload_n 3, 1) := by decide +kernel
theorem dL_law_732 : decode cL_law 732 = .ok (.iconst 1, 1) := by decide +kernel
theorem dL_law_733 : decode cL_law 733 = .ok (.iadd, 1) := by decide +kernel
theorem dL_law_734 : decode cL_law 734 = .ok (.iaload, 1) := by decide +kernel
theorem dL_law_735 : decode cL_law 735 = .ok (.invokevirtual 96, 3) := by decide +kernel
theorem dL_law_738 : decode cL_law 738 = .ok (.aload_n 2, 1) := by decide +kernel
theorem dL_law_739 : decode cL_law 739 = .ok (.aload_n 0, 1) := by decide +kernel
theorem dL_law_740 : decode cL_law 740 = .ok (.iload_n 3, 1) := by decide +kernel
theorem dL_law_741 : decode cL_law 741 = .ok (.iconst 1, 1) := by decide +kernel
theorem dL_law_742 : decode cL_law 742 = .ok (.iadd, 1) := by decide +kernel
theorem dL_law_743 : decode cL_law 743 = .ok (.iaload, 1) := by decide +kernel
theorem dL_law_744 : decode cL_law 744 = .ok (.invokevirtual 99, 3) := by decide +kernel
theorem dL_law_747 : decode cL_law 747 = .ok (.if_icmp .eq 278, 3) := by decide +kernel
theorem dL_law_750 : decode cL_law 750 = .ok (.iconst 0, 1) := by decide +kernel
theorem dL_law_751 : decode cL_law 751 = .ok (.ireturn, 1) := by decide +kernel
theorem dL_law_752 : decode cL_law 752 = .ok (.aload_n 1, 1) := by decide +kernel
theorem dL_law_753 : decode cL_law 753 = .ok (.aload_n 0, 1) := by decide +kernel
theorem dL_law_754 : decode cL_law 754 = .ok (.iload_n 3, 1) := by decide +kernel
theorem dL_law_755 : decode cL_law 755 = .ok (.iconst 1, 1) := by decide +kernel
theorem dL_law_756 : decode cL_law 756 = .ok (.iadd, 1) := by decide +kernel
theorem dL_law_757 : decode cL_law 757 = .ok (.iaload, 1) := by decide +kernel
theorem dL_law_758 : decode cL_law 758 = .ok (.invokevirtual 100, 3) := by decide +kernel
theorem dL_law_761 : decode cL_law 761 = .ok (.aload_n 2, 1) := by decide +kernel
theorem dL_law_762 : decode cL_law 762 = .ok (.aload_n 0, 1) := by decide +kernel
theorem dL_law_763 : decode cL_law 763 = .ok (.iload_n 3, 1) := by decide +kernel
theorem dL_law_764 : decode cL_law 764 = .ok (.iconst 1, 1) := by decide +kernel
theorem dL_law_765 : decode cL_law 765 = .ok (.iadd, 1) := by decide +kernel
theorem dL_law_766 : decode cL_law 766 = .ok (.iaload, 1) := by decide +kernel
theorem dL_law_767 : decode cL_law 767 = .ok (.invokevirtual 103, 3) := by decide +kernel
theorem dL_law_770 : decode cL_law 770 = .ok (.if_icmp .eq 255, 3) := by decide +kernel
theorem dL_law_773 : decode cL_law 773 = .ok (.iconst 0, 1) := by decide +kernel
theorem dL_law_774 : decode cL_law 774 = .ok (.ireturn, 1) := by decide +kernel
theorem dL_law_775 : decode cL_law 775 = .ok (.aload_n 1, 1) := by decide +kernel
theorem dL_law_776 : decode cL_law 776 = .ok (.aload_n 0, 1) := by decide +kernel
theorem dL_law_777 : decode cL_law 777 = .ok (.iload_n 3, 1) := by decide +kernel
theorem dL_law_778 : decode cL_law 778 = .ok (.iconst 1, 1) := by decide +kernel
theorem dL_law_779 : decode cL_law 779 = .ok (.iadd, 1) := by decide +kernel
theorem dL_law_780 : decode cL_law 780 = .ok (.iaload, 1) := by decide +kernel
theorem dL_law_781 : decode cL_law 781 = .ok (.aload_n 0, 1) := by decide +kernel
theorem dL_law_782 : decode cL_law 782 = .ok (.iload_n 3, 1) := by decide +kernel
theorem dL_law_783 : decode cL_law 783 = .ok (.iconst 2, 1) := by decide +kernel
theorem dL_law_784 : decode cL_law 784 = .ok (.iadd, 1) := by decide +kernel
theorem dL_law_785 : decode cL_law 785 = .ok (.iaload, 1) := by decide +kernel
theorem dL_law_786 : decode cL_law 786 = .ok (.aload_n 0, 1) := by decide +kernel
theorem dL_law_787 : decode cL_law 787 = .ok (.iload_n 3, 1) := by decide +kernel
theorem dL_law_788 : decode cL_law 788 = .ok (.iconst 3, 1) := by decide +kernel
theorem dL_law_789 : decode cL_law 789 = .ok (.iadd, 1) := by decide +kernel
theorem dL_law_790 : decode cL_law 790 = .ok (.iaload, 1) := by decide +kernel
theorem dL_law_791 : decode cL_law 791 = .ok (.invokevirtual 104, 3) := by decide +kernel
theorem dL_law_794 : decode cL_law 794 = .ok (.aload_n 2, 1) := by decide +kernel
theorem dL_law_795 : decode cL_law 795 = .ok (.aload_n 0, 1) := by decide +kernel
theorem dL_law_796 : decode cL_law 796 = .ok (.iload_n 3, 1) := by decide +kernel
theorem dL_law_797 : decode cL_law 797 = .ok (.iconst 1, 1) := by decide +kernel
theorem dL_law_798 : decode cL_law 798 = .ok (.iadd, 1) := by decide +kernel
theorem dL_law_799 : decode cL_law 799 = .ok (.iaload, 1) := by decide +kernel
theorem dL_law_800 : decode cL_law 800 = .ok (.aload_n 0, 1) := by decide +kernel
theorem dL_law_801 : decode cL_law 801 = .ok (.iload_n 3, 1) := by decide +kernel
theorem dL_law_802 : decode cL_law 802 = .ok (.iconst 2, 1) := by decide +kernel
theorem dL_law_803 : decode cL_law 803 = .ok (.iadd, 1) := by decide +kernel
theorem dL_law_804 : decode cL_law 804 = .ok (.iaload, 1) := by decide +kernel
theorem dL_law_805 : decode cL_law 805 = .ok (.aload_n 0, 1) := by decide +kernel
theorem dL_law_806 : decode cL_law 806 = .ok (.iload_n 3, 1) := by decide +kernel
theorem dL_law_807 : decode cL_law 807 = .ok (.iconst 3, 1) := by decide +kernel
theorem dL_law_808 : decode cL_law 808 = .ok (.iadd, 1) := by decide +kernel
theorem dL_law_809 : decode cL_law 809 = .ok (.iaload, 1) := by decide +kernel
theorem dL_law_810 : decode cL_law 810 = .ok (.invokevirtual 108, 3) := by decide +kernel
theorem dL_law_813 : decode cL_law 813 = .ok (.if_icmp .eq 212, 3) := by decide +kernel
theorem dL_law_816 : decode cL_law 816 = .ok (.iconst 0, 1) := by decide +kernel
theorem dL_law_817 : decode cL_law 817 = .ok (.ireturn, 1) := by decide +kernel
theorem dL_law_818 : decode cL_law 818 = .ok (.aload_n 1, 1) := by decide +kernel
theorem dL_law_819 : decode cL_law 819 = .ok (.aload_n 0, 1) := by decide +kernel
theorem dL_law_820 : decode cL_law 820 = .ok (.iload_n 3, 1) := by decide +kernel
theorem dL_law_821 : decode cL_law 821 = .ok (.iconst 1, 1) := by decide +kernel
theorem dL_law_822 : decode cL_law 822 = .ok (.iadd, 1) := by decide +kernel
theorem dL_law_823 : decode cL_law 823 = .ok (.iaload, 1) := by decide +kernel
theorem dL_law_824 : decode cL_law 824 = .ok (.aload_n 0, 1) := by decide +kernel
theorem dL_law_825 : decode cL_law 825 = .ok (.iload_n 3, 1) := by decide +kernel
theorem dL_law_826 : decode cL_law 826 = .ok (.iconst 2, 1) := by decide +kernel
theorem dL_law_827 : decode cL_law 827 = .ok (.iadd, 1) := by decide +kernel
theorem dL_law_828 : decode cL_law 828 = .ok (.iaload, 1) := by decide +kernel
theorem dL_law_829 : decode cL_law 829 = .ok (.invokevirtual 109, 3) := by decide +kernel
theorem dL_law_832 : decode cL_law 832 = .ok (.aload_n 2, 1) := by decide +kernel
theorem dL_law_833 : decode cL_law 833 = .ok (.aload_n 0, 1) := by decide +kernel
theorem dL_law_834 : decode cL_law 834 = .ok (.iload_n 3, 1) := by decide +kernel
theorem dL_law_835 : decode cL_law 835 = .ok (.iconst 1, 1) := by decide +kernel
theorem dL_law_836 : decode cL_law 836 = .ok (.iadd, 1) := by decide +kernel
theorem dL_law_837 : decode cL_law 837 = .ok (.iaload, 1) := by decide +kernel
theorem dL_law_838 : decode cL_law 838 = .ok (.aload_n 0, 1) := by decide +kernel
theorem dL_law_839 : decode cL_law 839 = .ok (.iload_n 3, 1) := by decide +kernel
theorem dL_law_840 : decode cL_law 840 = .ok (.iconst 2, 1) := by decide +kernel
theorem dL_law_841 : decode cL_law 841 = .ok (.iadd, 1) := by decide +kernel
theorem dL_law_842 : decode cL_law 842 = .ok (.iaload, 1) := by decide +kernel
theorem dL_law_843 : decode cL_law 843 = .ok (.invokevirtual 113, 3) := by decide +kernel
theorem dL_law_846 : decode cL_law 846 = .ok (.if_icmp .eq 179, 3) := by decide +kernel
theorem dL_law_849 : decode cL_law 849 = .ok (.iconst 0, 1) := by decide +kernel
theorem dL_law_850 : decode cL_law 850 = .ok (.ireturn, 1) := by decide +kernel
theorem dL_law_851 : decode cL_law 851 = .ok (.aload_n 1, 1) := by decide +kernel
theorem dL_law_852 : decode cL_law 852 = .ok (.aload_n 0, 1) := by decide +kernel
theorem dL_law_853 : decode cL_law 853 = .ok (.iload_n 3, 1) := by decide +kernel
theorem dL_law_854 : decode cL_law 854 = .ok (.iconst 1, 1) := by decide +kernel
theorem dL_law_855 : decode cL_law 855 = .ok (.iadd, 1) := by decide +kernel
theorem dL_law_856 : decode cL_law 856 = .ok (.iaload, 1) := by decide +kernel
theorem dL_law_857 : decode cL_law 857 = .ok (.aload_n 0, 1) := by decide +kernel
theorem dL_law_858 : decode cL_law 858 = .ok (.iload_n 3, 1) := by decide +kernel
theorem dL_law_859 : decode cL_law 859 = .ok (.iconst 2, 1) := by decide +kernel
theorem dL_law_860 : decode cL_law 860 = .ok (.iadd, 1) := by decide +kernel
theorem dL_law_861 : decode cL_law 861 = .ok (.iaload, 1) := by decide +kernel
theorem dL_law_862 : decode cL_law 862 = .ok (.invokevirtual 114, 3) := by decide +kernel
theorem dL_law_865 : decode cL_law 865 = .ok (.aload_n 2, 1) := by decide +kernel
theorem dL_law_866 : decode cL_law 866 = .ok (.aload_n 0, 1) := by decide +kernel
theorem dL_law_867 : decode cL_law 867 = .ok (.iload_n 3, 1) := by decide +kernel
theorem dL_law_868 : decode cL_law 868 = .ok (.iconst 1, 1) := by decide +kernel
theorem dL_law_869 : decode cL_law 869 = .ok (.iadd, 1) := by decide +kernel
theorem dL_law_870 : decode cL_law 870 = .ok (.iaload, 1) := by decide +kernel
theorem dL_law_871 : decode cL_law 871 = .ok (.aload_n 0, 1) := by decide +kernel
theorem dL_law_872 : decode cL_law 872 = .ok (.iload_n 3, 1) := by decide +kernel
theorem dL_law_873 : decode cL_law 873 = .ok (.iconst 2, 1) := by decide +kernel
theorem dL_law_874 : decode cL_law 874 = .ok (.iadd, 1) := by decide +kernel
theorem dL_law_875 : decode cL_law 875 = .ok (.iaload, 1) := by decide +kernel
theorem dL_law_876 : decode cL_law 876 = .ok (.invokevirtual 117, 3) := by decide +kernel
theorem dL_law_879 : decode cL_law 879 = .ok (.if_icmp .eq 146, 3) := by decide +kernel
theorem dL_law_882 : decode cL_law 882 = .ok (.iconst 0, 1) := by decide +kernel
theorem dL_law_883 : decode cL_law 883 = .ok (.ireturn, 1) := by decide +kernel
theorem dL_law_884 : decode cL_law 884 = .ok (.aload_n 1, 1) := by decide +kernel
theorem dL_law_885 : decode cL_law 885 = .ok (.invokevirtual 118, 3) := by decide +kernel
theorem dL_law_888 : decode cL_law 888 = .ok (.aload_n 2, 1) := by decide +kernel
theorem dL_law_889 : decode cL_law 889 = .ok (.invokevirtual 122, 3) := by decide +kernel
theorem dL_law_892 : decode cL_law 892 = .ok (.if_icmp .eq 133, 3) := by decide +kernel
theorem dL_law_895 : decode cL_law 895 = .ok (.iconst 0, 1) := by decide +kernel
theorem dL_law_896 : decode cL_law 896 = .ok (.ireturn, 1) := by decide +kernel
theorem dL_law_897 : decode cL_law 897 = .ok (.aload_n 1, 1) := by decide +kernel
theorem dL_law_898 : decode cL_law 898 = .ok (.aload_n 0, 1) := by decide +kernel
theorem dL_law_899 : decode cL_law 899 = .ok (.iload_n 3, 1) := by decide +kernel
theorem dL_law_900 : decode cL_law 900 = .ok (.iconst 1, 1) := by decide +kernel
theorem dL_law_901 : decode cL_law 901 = .ok (.iadd, 1) := by decide +kernel
theorem dL_law_902 : decode cL_law 902 = .ok (.iaload, 1) := by decide +kernel
theorem dL_law_903 : decode cL_law 903 = .ok (.invokevirtual 123, 3) := by decide +kernel
theorem dL_law_906 : decode cL_law 906 = .ok (.aload_n 2, 1) := by decide +kernel
theorem dL_law_907 : decode cL_law 907 = .ok (.aload_n 0, 1) := by decide +kernel
theorem dL_law_908 : decode cL_law 908 = .ok (.iload_n 3, 1) := by decide +kernel
theorem dL_law_909 : decode cL_law 909 = .ok (.iconst 1, 1) := by decide +kernel
theorem dL_law_910 : decode cL_law 910 = .ok (.iadd, 1) := by decide +kernel
theorem dL_law_911 : decode cL_law 911 = .ok (.iaload, 1) := by decide +kernel
theorem dL_law_912 : decode cL_law 912 = .ok (.invokevirtual 126, 3) := by decide +kernel
theorem dL_law_915 : decode cL_law 915 = .ok (.if_icmp .eq 110, 3) := by decide +kernel
theorem dL_law_918 : decode cL_law 918 = .ok (.iconst 0, 1) := by decide +kernel
theorem dL_law_919 : decode cL_law 919 = .ok (.ireturn, 1) := by decide +kernel
theorem dL_law_920 : decode cL_law 920 = .ok (.aload_n 1, 1) := by decide +kernel
theorem dL_law_921 : decode cL_law 921 = .ok (.aload_n 0, 1) := by decide +kernel
theorem dL_law_922 : decode cL_law 922 = .ok (.iload_n 3, 1) := by decide +kernel
theorem dL_law_923 : decode cL_law 923 = .ok (.iconst 1, 1) := by decide +kernel
theorem dL_law_924 : decode cL_law 924 = .ok (.iadd, 1) := by decide +kernel
theorem dL_law_925 : decode cL_law 925 = .ok (.iaload, 1) := by decide +kernel
theorem dL_law_926 : decode cL_law 926 = .ok (.aload_n 0, 1) := by decide +kernel
theorem dL_law_927 : decode cL_law 927 = .ok (.iload_n 3, 1) := by decide +kernel
theorem dL_law_928 : decode cL_law 928 = .ok (.iconst 2, 1) := by decide +kernel
theorem dL_law_929 : decode cL_law 929 = .ok (.iadd, 1) := by decide +kernel
theorem dL_law_930 : decode cL_law 930 = .ok (.iaload, 1) := by decide +kernel
theorem dL_law_931 : decode cL_law 931 = .ok (.invokevirtual 127, 3) := by decide +kernel
theorem dL_law_934 : decode cL_law 934 = .ok (.aload_n 2, 1) := by decide +kernel
theorem dL_law_935 : decode cL_law 935 = .ok (.aload_n 0, 1) := by decide +kernel
theorem dL_law_936 : decode cL_law 936 = .ok (.iload_n 3, 1) := by decide +kernel
theorem dL_law_937 : decode cL_law 937 = .ok (.iconst 1, 1) := by decide +kernel
theorem dL_law_938 : decode cL_law 938 = .ok (.iadd, 1) := by decide +kernel
theorem dL_law_939 : decode cL_law 939 = .ok (.iaload, 1) := by decide +kernel
theorem dL_law_940 : decode cL_law 940 = .ok (.aload_n 0, 1) := by decide +kernel
theorem dL_law_941 : decode cL_law 941 = .ok (.iload_n 3, 1) := by decide +kernel
theorem dL_law_942 : decode cL_law 942 = .ok (.iconst 2, 1) := by decide +kernel
theorem dL_law_943 : decode cL_law 943 = .ok (.iadd, 1) := by decide +kernel
theorem dL_law_944 : decode cL_law 944 = .ok (.iaload, 1) := by decide +kernel
theorem dL_law_945 : decode cL_law 945 = .ok (.invokevirtual 130, 3) := by decide +kernel
theorem dL_law_948 : decode cL_law 948 = .ok (.if_icmp .eq 77, 3) := by decide +kernel
theorem dL_law_951 : decode cL_law 951 = .ok (.iconst 0, 1) := by decide +kernel
theorem dL_law_952 : decode cL_law 952 = .ok (.ireturn, 1) := by decide +kernel
theorem dL_law_953 : decode cL_law 953 = .ok (.aload_n 1, 1) := by decide +kernel
theorem dL_law_954 : decode cL_law 954 = .ok (.invokevirtual 131, 3) := by decide +kernel
theorem dL_law_957 : decode cL_law 957 = .ok (.aload_n 2, 1) := by decide +kernel
theorem dL_law_958 : decode cL_law 958 = .ok (.invokevirtual 134, 3) := by decide +kernel
theorem dL_law_961 : decode cL_law 961 = .ok (.if_icmp .eq 64, 3) := by decide +kernel
theorem dL_law_964 : decode cL_law 964 = .ok (.iconst 0, 1) := by decide +kernel
theorem dL_law_965 : decode cL_law 965 = .ok (.ireturn, 1) := by decide +kernel
theorem dL_law_966 : decode cL_law 966 = .ok (.aload_n 1, 1) := by decide +kernel
theorem dL_law_967 : decode cL_law 967 = .ok (.aload_n 0, 1) := by decide +kernel
theorem dL_law_968 : decode cL_law 968 = .ok (.iload_n 3, 1) := by decide +kernel
theorem dL_law_969 : decode cL_law 969 = .ok (.iconst 1, 1) := by decide +kernel
theorem dL_law_970 : decode cL_law 970 = .ok (.iadd, 1) := by decide +kernel
theorem dL_law_971 : decode cL_law 971 = .ok (.iaload, 1) := by decide +kernel
theorem dL_law_972 : decode cL_law 972 = .ok (.invokevirtual 135, 3) := by decide +kernel
theorem dL_law_975 : decode cL_law 975 = .ok (.aload_n 2, 1) := by decide +kernel
theorem dL_law_976 : decode cL_law 976 = .ok (.aload_n 0, 1) := by decide +kernel
theorem dL_law_977 : decode cL_law 977 = .ok (.iload_n 3, 1) := by decide +kernel
theorem dL_law_978 : decode cL_law 978 = .ok (.iconst 1, 1) := by decide +kernel
theorem dL_law_979 : decode cL_law 979 = .ok (.iadd, 1) := by decide +kernel
theorem dL_law_980 : decode cL_law 980 = .ok (.iaload, 1) := by decide +kernel
theorem dL_law_981 : decode cL_law 981 = .ok (.invokevirtual 138, 3) := by decide +kernel
theorem dL_law_984 : decode cL_law 984 = .ok (.if_icmp .eq 41, 3) := by decide +kernel
theorem dL_law_987 : decode cL_law 987 = .ok (.iconst 0, 1) := by decide +kernel
theorem dL_law_988 : decode cL_law 988 = .ok (.ireturn, 1) := by decide +kernel
theorem dL_law_989 : decode cL_law 989 = .ok (.aload_n 1, 1) := by decide +kernel
theorem dL_law_990 : decode cL_law 990 = .ok (.invokevirtual 139, 3) := by decide +kernel
theorem dL_law_993 : decode cL_law 993 = .ok (.aload_n 2, 1) := by decide +kernel
theorem dL_law_994 : decode cL_law 994 = .ok (.invokevirtual 142, 3) := by decide +kernel
theorem dL_law_997 : decode cL_law 997 = .ok (.if_icmp .eq 28, 3) := by decide +kernel
theorem dL_law_1000 : decode cL_law 1000 = .ok (.iconst 0, 1) := by decide +kernel
theorem dL_law_1001 : decode cL_law 1001 = .ok (.ireturn, 1) := by decide +kernel
theorem dL_law_1002 : decode cL_law 1002 = .ok (.aload_n 1, 1) := by decide +kernel
theorem dL_law_1003 : decode cL_law 1003 = .ok (.aload_n 0, 1) := by decide +kernel
theorem dL_law_1004 : decode cL_law 1004 = .ok (.iload_n 3, 1) := by decide +kernel
theorem dL_law_1005 : decode cL_law 1005 = .ok (.iconst 1, 1) := by decide +kernel
theorem dL_law_1006 : decode cL_law 1006 = .ok (.iadd, 1) := by decide +kernel
theorem dL_law_1007 : decode cL_law 1007 = .ok (.iaload, 1) := by decide +kernel
theorem dL_law_1008 : decode cL_law 1008 = .ok (.invokevirtual 143, 3) := by decide +kernel
theorem dL_law_1011 : decode cL_law 1011 = .ok (.aload_n 2, 1) := by decide +kernel
theorem dL_law_1012 : decode cL_law 1012 = .ok (.aload_n 0, 1) := by decide +kernel
theorem dL_law_1013 : decode cL_law 1013 = .ok (.iload_n 3, 1) := by decide +kernel
theorem dL_law_1014 : decode cL_law 1014 = .ok (.iconst 1, 1) := by decide +kernel
theorem dL_law_1015 : decode cL_law 1015 = .ok (.iadd, 1) := by decide +kernel
theorem dL_law_1016 : decode cL_law 1016 = .ok (.iaload, 1) := by decide +kernel
theorem dL_law_1017 : decode cL_law 1017 = .ok (.invokevirtual 146, 3) := by decide +kernel
theorem dL_law_1020 : decode cL_law 1020 = .ok (.if_icmp .eq 5, 3) := by decide +kernel
theorem dL_law_1023 : decode cL_law 1023 = .ok (.iconst 0, 1) := by decide +kernel
theorem dL_law_1024 : decode cL_law 1024 = .ok (.ireturn, 1) := by decide +kernel
theorem dL_law_1025 : decode cL_law 1025 = .ok (.iinc 3 6, 3) := by decide +kernel
theorem dL_law_1028 : decode cL_law 1028 = .ok (.goto (-1010), 3) := by decide +kernel
theorem dL_law_1031 : decode cL_law 1031 = .ok (.iconst 1, 1) := by decide +kernel
theorem dL_law_1032 : decode cL_law 1032 = .ok (.ireturn, 1) := by decide +kernel
theorem lm_C_feed : Cond.methodLink RL 13 yX10_feed ∈ zTB := zmT2 7 (by decide +kernel) rfl
theorem lg_C_feed : Cond.code yX10_feed cX10_feed 6 (some .int) ∈ zTB ∧ Cond.initialized yX10_feed.cls ∈ zTB ∧ Cond.instanceMethod yX10_feed ∈ zTB ∧ Cond.selects yX10_feed.cls yX10_feed yX10_feed ∈ zTB := ⟨zmT2 10 rfl rfl, zmT1 1 rfl rfl, zmT2 8 rfl rfl, zmT2 9 rfl rfl⟩
theorem lp_C_feed : (yX10_feed.cls ≠ "java/lang/invoke/MethodHandle" ∧ yX10_feed.cls ≠ "java/lang/invoke/VarHandle") ∧ (parseMethodDescriptor yX10_feed.desc).map (fun d => d.parameters.length) = some 5 := ⟨⟨by decide, by decide⟩, by decide +kernel⟩
theorem lm_M_feed : Cond.methodLink RL 17 yX11_feed ∈ zTB := zmT5 206 (by decide +kernel) rfl
theorem lg_M_feed : Cond.code yX11_feed cX11_feed 6 (some .int) ∈ zTB ∧ Cond.initialized yX11_feed.cls ∈ zTB ∧ Cond.instanceMethod yX11_feed ∈ zTB ∧ Cond.selects yX11_feed.cls yX11_feed yX11_feed ∈ zTB := ⟨zmT5 209 rfl rfl, zmT1 6 rfl rfl, zmT5 207 rfl rfl, zmT5 208 rfl rfl⟩
theorem lp_M_feed : (yX11_feed.cls ≠ "java/lang/invoke/MethodHandle" ∧ yX11_feed.cls ≠ "java/lang/invoke/VarHandle") ∧ (parseMethodDescriptor yX11_feed.desc).map (fun d => d.parameters.length) = some 5 := ⟨⟨by decide, by decide⟩, by decide +kernel⟩
theorem lm_C_end : Cond.methodLink RL 18 yX10_end ∈ zTB := zmT2 19 (by decide +kernel) rfl
theorem lg_C_end : Cond.code yX10_end cX10_end 2 (some .boolean) ∈ zTB ∧ Cond.initialized yX10_end.cls ∈ zTB ∧ Cond.instanceMethod yX10_end ∈ zTB ∧ Cond.selects yX10_end.cls yX10_end yX10_end ∈ zTB := ⟨zmT2 22 rfl rfl, zmT1 1 rfl rfl, zmT2 20 rfl rfl, zmT2 21 rfl rfl⟩
theorem lp_C_end : (yX10_end.cls ≠ "java/lang/invoke/MethodHandle" ∧ yX10_end.cls ≠ "java/lang/invoke/VarHandle") ∧ (parseMethodDescriptor yX10_end.desc).map (fun d => d.parameters.length) = some 1 := ⟨⟨by decide, by decide⟩, by decide +kernel⟩
theorem lm_M_end : Cond.methodLink RL 22 yX11_end ∈ zTB := zmT5 218 (by decide +kernel) rfl
theorem lg_M_end : Cond.code yX11_end cX11_end 2 (some .boolean) ∈ zTB ∧ Cond.initialized yX11_end.cls ∈ zTB ∧ Cond.instanceMethod yX11_end ∈ zTB ∧ Cond.selects yX11_end.cls yX11_end yX11_end ∈ zTB := ⟨zmT5 221 rfl rfl, zmT1 6 rfl rfl, zmT5 219 rfl rfl, zmT5 220 rfl rfl⟩
theorem lp_M_end : (yX11_end.cls ≠ "java/lang/invoke/MethodHandle" ∧ yX11_end.cls ≠ "java/lang/invoke/VarHandle") ∧ (parseMethodDescriptor yX11_end.desc).map (fun d => d.parameters.length) = some 1 := ⟨⟨by decide, by decide⟩, by decide +kernel⟩
theorem lm_C_union : Cond.methodLink RL 23 yX10_union ∈ zTB := zmT2 23 (by decide +kernel) rfl
theorem lg_C_union : Cond.code yX10_union cX10_union 2 (some .int) ∈ zTB ∧ Cond.initialized yX10_union.cls ∈ zTB ∧ Cond.instanceMethod yX10_union ∈ zTB ∧ Cond.selects yX10_union.cls yX10_union yX10_union ∈ zTB := ⟨zmT2 26 rfl rfl, zmT1 1 rfl rfl, zmT2 24 rfl rfl, zmT2 25 rfl rfl⟩
theorem lp_C_union : (yX10_union.cls ≠ "java/lang/invoke/MethodHandle" ∧ yX10_union.cls ≠ "java/lang/invoke/VarHandle") ∧ (parseMethodDescriptor yX10_union.desc).map (fun d => d.parameters.length) = some 0 := ⟨⟨by decide, by decide⟩, by decide +kernel⟩
theorem lm_M_union : Cond.methodLink RL 27 yX11_union ∈ zTB := zmT5 222 (by decide +kernel) rfl
theorem lg_M_union : Cond.code yX11_union cX11_union 2 (some .int) ∈ zTB ∧ Cond.initialized yX11_union.cls ∈ zTB ∧ Cond.instanceMethod yX11_union ∈ zTB ∧ Cond.selects yX11_union.cls yX11_union yX11_union ∈ zTB := ⟨zmT5 225 rfl rfl, zmT1 6 rfl rfl, zmT5 223 rfl rfl, zmT5 224 rfl rfl⟩
theorem lp_M_union : (yX11_union.cls ≠ "java/lang/invoke/MethodHandle" ∧ yX11_union.cls ≠ "java/lang/invoke/VarHandle") ∧ (parseMethodDescriptor yX11_union.desc).map (fun d => d.parameters.length) = some 0 := ⟨⟨by decide, by decide⟩, by decide +kernel⟩
theorem lm_C_fault : Cond.methodLink RL 28 yX10_fault ∈ zTB := zmT3 86 (by decide +kernel) rfl
theorem lg_C_fault : Cond.code yX10_fault cX10_fault 2 (some .int) ∈ zTB ∧ Cond.initialized yX10_fault.cls ∈ zTB ∧ Cond.instanceMethod yX10_fault ∈ zTB ∧ Cond.selects yX10_fault.cls yX10_fault yX10_fault ∈ zTB := ⟨zmT3 89 rfl rfl, zmT1 1 rfl rfl, zmT3 87 rfl rfl, zmT3 88 rfl rfl⟩
theorem lp_C_fault : (yX10_fault.cls ≠ "java/lang/invoke/MethodHandle" ∧ yX10_fault.cls ≠ "java/lang/invoke/VarHandle") ∧ (parseMethodDescriptor yX10_fault.desc).map (fun d => d.parameters.length) = some 1 := ⟨⟨by decide, by decide⟩, by decide +kernel⟩
theorem lm_M_fault : Cond.methodLink RL 32 yX11_fault ∈ zTB := zmT6 148 (by decide +kernel) rfl
theorem lg_M_fault : Cond.code yX11_fault cX11_fault 2 (some .int) ∈ zTB ∧ Cond.initialized yX11_fault.cls ∈ zTB ∧ Cond.instanceMethod yX11_fault ∈ zTB ∧ Cond.selects yX11_fault.cls yX11_fault yX11_fault ∈ zTB := ⟨zmT6 151 rfl rfl, zmT1 6 rfl rfl, zmT6 149 rfl rfl, zmT6 150 rfl rfl⟩
theorem lp_M_fault : (yX11_fault.cls ≠ "java/lang/invoke/MethodHandle" ∧ yX11_fault.cls ≠ "java/lang/invoke/VarHandle") ∧ (parseMethodDescriptor yX11_fault.desc).map (fun d => d.parameters.length) = some 1 := ⟨⟨by decide, by decide⟩, by decide +kernel⟩
theorem lm_C_has : Cond.methodLink RL 33 yX10_has ∈ zTB := zmT3 90 (by decide +kernel) rfl
theorem lg_C_has : Cond.code yX10_has cX10_has 2 (some .int) ∈ zTB ∧ Cond.initialized yX10_has.cls ∈ zTB ∧ Cond.instanceMethod yX10_has ∈ zTB ∧ Cond.selects yX10_has.cls yX10_has yX10_has ∈ zTB := ⟨zmT3 93 rfl rfl, zmT1 1 rfl rfl, zmT3 91 rfl rfl, zmT3 92 rfl rfl⟩
theorem lp_C_has : (yX10_has.cls ≠ "java/lang/invoke/MethodHandle" ∧ yX10_has.cls ≠ "java/lang/invoke/VarHandle") ∧ (parseMethodDescriptor yX10_has.desc).map (fun d => d.parameters.length) = some 1 := ⟨⟨by decide, by decide⟩, by decide +kernel⟩
theorem lm_M_has : Cond.methodLink RL 36 yX11_has ∈ zTB := zmT6 168 (by decide +kernel) rfl
theorem lg_M_has : Cond.code yX11_has cX11_has 4 (some .int) ∈ zTB ∧ Cond.initialized yX11_has.cls ∈ zTB ∧ Cond.instanceMethod yX11_has ∈ zTB ∧ Cond.selects yX11_has.cls yX11_has yX11_has ∈ zTB := ⟨zmT6 171 rfl rfl, zmT1 6 rfl rfl, zmT6 169 rfl rfl, zmT6 170 rfl rfl⟩
theorem lp_M_has : (yX11_has.cls ≠ "java/lang/invoke/MethodHandle" ∧ yX11_has.cls ≠ "java/lang/invoke/VarHandle") ∧ (parseMethodDescriptor yX11_has.desc).map (fun d => d.parameters.length) = some 1 := ⟨⟨by decide, by decide⟩, by decide +kernel⟩
theorem lm_C_letter : Cond.methodLink RL 37 yX10_letter ∈ zTB := zmT3 97 (by decide +kernel) rfl
theorem lg_C_letter : Cond.code yX10_letter cX10_letter 3 (some .int) ∈ zTB ∧ Cond.initialized yX10_letter.cls ∈ zTB ∧ Cond.instanceMethod yX10_letter ∈ zTB ∧ Cond.selects yX10_letter.cls yX10_letter yX10_letter ∈ zTB := ⟨zmT3 100 rfl rfl, zmT1 1 rfl rfl, zmT3 98 rfl rfl, zmT3 99 rfl rfl⟩
theorem lp_C_letter : (yX10_letter.cls ≠ "java/lang/invoke/MethodHandle" ∧ yX10_letter.cls ≠ "java/lang/invoke/VarHandle") ∧ (parseMethodDescriptor yX10_letter.desc).map (fun d => d.parameters.length) = some 2 := ⟨⟨by decide, by decide⟩, by decide +kernel⟩
theorem lm_M_letter : Cond.methodLink RL 41 yX11_letter ∈ zTB := zmT6 172 (by decide +kernel) rfl
theorem lg_M_letter : Cond.code yX11_letter cX11_letter 8 (some .int) ∈ zTB ∧ Cond.initialized yX11_letter.cls ∈ zTB ∧ Cond.instanceMethod yX11_letter ∈ zTB ∧ Cond.selects yX11_letter.cls yX11_letter yX11_letter ∈ zTB := ⟨zmT6 175 rfl rfl, zmT1 6 rfl rfl, zmT6 173 rfl rfl, zmT6 174 rfl rfl⟩
theorem lp_M_letter : (yX11_letter.cls ≠ "java/lang/invoke/MethodHandle" ∧ yX11_letter.cls ≠ "java/lang/invoke/VarHandle") ∧ (parseMethodDescriptor yX11_letter.desc).map (fun d => d.parameters.length) = some 2 := ⟨⟨by decide, by decide⟩, by decide +kernel⟩
theorem lm_C_pair : Cond.methodLink RL 42 yX10_pair ∈ zTB := zmT3 105 (by decide +kernel) rfl
theorem lg_C_pair : Cond.code yX10_pair cX10_pair 5 (some .int) ∈ zTB ∧ Cond.initialized yX10_pair.cls ∈ zTB ∧ Cond.instanceMethod yX10_pair ∈ zTB ∧ Cond.selects yX10_pair.cls yX10_pair yX10_pair ∈ zTB := ⟨zmT3 108 rfl rfl, zmT1 1 rfl rfl, zmT3 106 rfl rfl, zmT3 107 rfl rfl⟩
theorem lp_C_pair : (yX10_pair.cls ≠ "java/lang/invoke/MethodHandle" ∧ yX10_pair.cls ≠ "java/lang/invoke/VarHandle") ∧ (parseMethodDescriptor yX10_pair.desc).map (fun d => d.parameters.length) = some 3 := ⟨⟨by decide, by decide⟩, by decide +kernel⟩
theorem lm_M_pair : Cond.methodLink RL 46 yX11_pair ∈ zTB := zmT6 181 (by decide +kernel) rfl
theorem lg_M_pair : Cond.code yX11_pair cX11_pair 5 (some .int) ∈ zTB ∧ Cond.initialized yX11_pair.cls ∈ zTB ∧ Cond.instanceMethod yX11_pair ∈ zTB ∧ Cond.selects yX11_pair.cls yX11_pair yX11_pair ∈ zTB := ⟨zmT6 184 rfl rfl, zmT1 6 rfl rfl, zmT6 182 rfl rfl, zmT6 183 rfl rfl⟩
theorem lp_M_pair : (yX11_pair.cls ≠ "java/lang/invoke/MethodHandle" ∧ yX11_pair.cls ≠ "java/lang/invoke/VarHandle") ∧ (parseMethodDescriptor yX11_pair.desc).map (fun d => d.parameters.length) = some 3 := ⟨⟨by decide, by decide⟩, by decide +kernel⟩
theorem lm_C_mail : Cond.methodLink RL 47 yX10_mail ∈ zTB := zmT3 114 (by decide +kernel) rfl
theorem lg_C_mail : Cond.code yX10_mail cX10_mail 3 (some .int) ∈ zTB ∧ Cond.initialized yX10_mail.cls ∈ zTB ∧ Cond.instanceMethod yX10_mail ∈ zTB ∧ Cond.selects yX10_mail.cls yX10_mail yX10_mail ∈ zTB := ⟨zmT3 117 rfl rfl, zmT1 1 rfl rfl, zmT3 115 rfl rfl, zmT3 116 rfl rfl⟩
theorem lp_C_mail : (yX10_mail.cls ≠ "java/lang/invoke/MethodHandle" ∧ yX10_mail.cls ≠ "java/lang/invoke/VarHandle") ∧ (parseMethodDescriptor yX10_mail.desc).map (fun d => d.parameters.length) = some 2 := ⟨⟨by decide, by decide⟩, by decide +kernel⟩
theorem lm_M_mail : Cond.methodLink RL 50 yX11_mail ∈ zTB := zmT6 197 (by decide +kernel) rfl
theorem lg_M_mail : Cond.code yX11_mail cX11_mail 3 (some .int) ∈ zTB ∧ Cond.initialized yX11_mail.cls ∈ zTB ∧ Cond.instanceMethod yX11_mail ∈ zTB ∧ Cond.selects yX11_mail.cls yX11_mail yX11_mail ∈ zTB := ⟨zmT6 200 rfl rfl, zmT1 6 rfl rfl, zmT6 198 rfl rfl, zmT6 199 rfl rfl⟩
theorem lp_M_mail : (yX11_mail.cls ≠ "java/lang/invoke/MethodHandle" ∧ yX11_mail.cls ≠ "java/lang/invoke/VarHandle") ∧ (parseMethodDescriptor yX11_mail.desc).map (fun d => d.parameters.length) = some 2 := ⟨⟨by decide, by decide⟩, by decide +kernel⟩
theorem lm_C_writes : Cond.methodLink RL 51 yX10_writes ∈ zTB := zmT3 118 (by decide +kernel) rfl
theorem lg_C_writes : Cond.code yX10_writes cX10_writes 2 (some .int) ∈ zTB ∧ Cond.initialized yX10_writes.cls ∈ zTB ∧ Cond.instanceMethod yX10_writes ∈ zTB ∧ Cond.selects yX10_writes.cls yX10_writes yX10_writes ∈ zTB := ⟨zmT3 121 rfl rfl, zmT1 1 rfl rfl, zmT3 119 rfl rfl, zmT3 120 rfl rfl⟩
theorem lp_C_writes : (yX10_writes.cls ≠ "java/lang/invoke/MethodHandle" ∧ yX10_writes.cls ≠ "java/lang/invoke/VarHandle") ∧ (parseMethodDescriptor yX10_writes.desc).map (fun d => d.parameters.length) = some 1 := ⟨⟨by decide, by decide⟩, by decide +kernel⟩
theorem lm_M_writes : Cond.methodLink RL 54 yX11_writes ∈ zTB := zmT6 201 (by decide +kernel) rfl
theorem lg_M_writes : Cond.code yX11_writes cX11_writes 2 (some .int) ∈ zTB ∧ Cond.initialized yX11_writes.cls ∈ zTB ∧ Cond.instanceMethod yX11_writes ∈ zTB ∧ Cond.selects yX11_writes.cls yX11_writes yX11_writes ∈ zTB := ⟨zmT6 204 rfl rfl, zmT1 6 rfl rfl, zmT6 202 rfl rfl, zmT6 203 rfl rfl⟩
theorem lp_M_writes : (yX11_writes.cls ≠ "java/lang/invoke/MethodHandle" ∧ yX11_writes.cls ≠ "java/lang/invoke/VarHandle") ∧ (parseMethodDescriptor yX11_writes.desc).map (fun d => d.parameters.length) = some 1 := ⟨⟨by decide, by decide⟩, by decide +kernel⟩
theorem lm_C_later : Cond.methodLink RL 55 yX10_later ∈ zTB := zmT3 159 (by decide +kernel) rfl
theorem lg_C_later : Cond.code yX10_later cX10_later 6 (some .int) ∈ zTB ∧ Cond.initialized yX10_later.cls ∈ zTB ∧ Cond.instanceMethod yX10_later ∈ zTB ∧ Cond.selects yX10_later.cls yX10_later yX10_later ∈ zTB := ⟨zmT3 162 rfl rfl, zmT1 1 rfl rfl, zmT3 160 rfl rfl, zmT3 161 rfl rfl⟩
theorem lp_C_later : (yX10_later.cls ≠ "java/lang/invoke/MethodHandle" ∧ yX10_later.cls ≠ "java/lang/invoke/VarHandle") ∧ (parseMethodDescriptor yX10_later.desc).map (fun d => d.parameters.length) = some 4 := ⟨⟨by decide, by decide⟩, by decide +kernel⟩
theorem lm_M_later : Cond.methodLink RL 59 yX11_later ∈ zTB := zmT6 232 (by decide +kernel) rfl
theorem lg_M_later : Cond.code yX11_later cX11_later 6 (some .int) ∈ zTB ∧ Cond.initialized yX11_later.cls ∈ zTB ∧ Cond.instanceMethod yX11_later ∈ zTB ∧ Cond.selects yX11_later.cls yX11_later yX11_later ∈ zTB := ⟨zmT6 235 rfl rfl, zmT1 6 rfl rfl, zmT6 233 rfl rfl, zmT6 234 rfl rfl⟩
theorem lp_M_later : (yX11_later.cls ≠ "java/lang/invoke/MethodHandle" ∧ yX11_later.cls ≠ "java/lang/invoke/VarHandle") ∧ (parseMethodDescriptor yX11_later.desc).map (fun d => d.parameters.length) = some 4 := ⟨⟨by decide, by decide⟩, by decide +kernel⟩
theorem lm_C_comes : Cond.methodLink RL 60 yX10_comes ∈ zTB := zmT3 201 (by decide +kernel) rfl
theorem lg_C_comes : Cond.code yX10_comes cX10_comes 7 (some .int) ∈ zTB ∧ Cond.initialized yX10_comes.cls ∈ zTB ∧ Cond.instanceMethod yX10_comes ∈ zTB ∧ Cond.selects yX10_comes.cls yX10_comes yX10_comes ∈ zTB := ⟨zmT3 204 rfl rfl, zmT1 1 rfl rfl, zmT3 202 rfl rfl, zmT3 203 rfl rfl⟩
theorem lp_C_comes : (yX10_comes.cls ≠ "java/lang/invoke/MethodHandle" ∧ yX10_comes.cls ≠ "java/lang/invoke/VarHandle") ∧ (parseMethodDescriptor yX10_comes.desc).map (fun d => d.parameters.length) = some 2 := ⟨⟨by decide, by decide⟩, by decide +kernel⟩
theorem lm_M_comes : Cond.methodLink RL 63 yX11_comes ∈ zTB := zmT7 28 (by decide +kernel) rfl
theorem lg_M_comes : Cond.code yX11_comes cX11_comes 4 (some .int) ∈ zTB ∧ Cond.initialized yX11_comes.cls ∈ zTB ∧ Cond.instanceMethod yX11_comes ∈ zTB ∧ Cond.selects yX11_comes.cls yX11_comes yX11_comes ∈ zTB := ⟨zmT7 31 rfl rfl, zmT1 6 rfl rfl, zmT7 29 rfl rfl, zmT7 30 rfl rfl⟩
theorem lp_M_comes : (yX11_comes.cls ≠ "java/lang/invoke/MethodHandle" ∧ yX11_comes.cls ≠ "java/lang/invoke/VarHandle") ∧ (parseMethodDescriptor yX11_comes.desc).map (fun d => d.parameters.length) = some 2 := ⟨⟨by decide, by decide⟩, by decide +kernel⟩
theorem lm_C_silent : Cond.methodLink RL 64 yX10_silent ∈ zTB := zmT3 205 (by decide +kernel) rfl
theorem lg_C_silent : Cond.code yX10_silent cX10_silent 3 (some .int) ∈ zTB ∧ Cond.initialized yX10_silent.cls ∈ zTB ∧ Cond.instanceMethod yX10_silent ∈ zTB ∧ Cond.selects yX10_silent.cls yX10_silent yX10_silent ∈ zTB := ⟨zmT3 208 rfl rfl, zmT1 1 rfl rfl, zmT3 206 rfl rfl, zmT3 207 rfl rfl⟩
theorem lp_C_silent : (yX10_silent.cls ≠ "java/lang/invoke/MethodHandle" ∧ yX10_silent.cls ≠ "java/lang/invoke/VarHandle") ∧ (parseMethodDescriptor yX10_silent.desc).map (fun d => d.parameters.length) = some 0 := ⟨⟨by decide, by decide⟩, by decide +kernel⟩
theorem lm_M_silent : Cond.methodLink RL 67 yX11_silent ∈ zTB := zmT7 32 (by decide +kernel) rfl
theorem lg_M_silent : Cond.code yX11_silent cX11_silent 2 (some .int) ∈ zTB ∧ Cond.initialized yX11_silent.cls ∈ zTB ∧ Cond.instanceMethod yX11_silent ∈ zTB ∧ Cond.selects yX11_silent.cls yX11_silent yX11_silent ∈ zTB := ⟨zmT7 35 rfl rfl, zmT1 6 rfl rfl, zmT7 33 rfl rfl, zmT7 34 rfl rfl⟩
theorem lp_M_silent : (yX11_silent.cls ≠ "java/lang/invoke/MethodHandle" ∧ yX11_silent.cls ≠ "java/lang/invoke/VarHandle") ∧ (parseMethodDescriptor yX11_silent.desc).map (fun d => d.parameters.length) = some 0 := ⟨⟨by decide, by decide⟩, by decide +kernel⟩
theorem lm_C_word : Cond.methodLink RL 68 yX10_word ∈ zTB := zmT3 213 (by decide +kernel) rfl
theorem lg_C_word : Cond.code yX10_word cX10_word 2 (some .int) ∈ zTB ∧ Cond.initialized yX10_word.cls ∈ zTB ∧ Cond.instanceMethod yX10_word ∈ zTB ∧ Cond.selects yX10_word.cls yX10_word yX10_word ∈ zTB := ⟨zmT3 216 rfl rfl, zmT1 1 rfl rfl, zmT3 214 rfl rfl, zmT3 215 rfl rfl⟩
theorem lp_C_word : (yX10_word.cls ≠ "java/lang/invoke/MethodHandle" ∧ yX10_word.cls ≠ "java/lang/invoke/VarHandle") ∧ (parseMethodDescriptor yX10_word.desc).map (fun d => d.parameters.length) = some 1 := ⟨⟨by decide, by decide⟩, by decide +kernel⟩
theorem lm_M_word : Cond.methodLink RL 71 yX11_word ∈ zTB := zmT7 40 (by decide +kernel) rfl
theorem lg_M_word : Cond.code yX11_word cX11_word 2 (some .int) ∈ zTB ∧ Cond.initialized yX11_word.cls ∈ zTB ∧ Cond.instanceMethod yX11_word ∈ zTB ∧ Cond.selects yX11_word.cls yX11_word yX11_word ∈ zTB := ⟨zmT7 43 rfl rfl, zmT1 6 rfl rfl, zmT7 41 rfl rfl, zmT7 42 rfl rfl⟩
theorem lp_M_word : (yX11_word.cls ≠ "java/lang/invoke/MethodHandle" ∧ yX11_word.cls ≠ "java/lang/invoke/VarHandle") ∧ (parseMethodDescriptor yX11_word.desc).map (fun d => d.parameters.length) = some 1 := ⟨⟨by decide, by decide⟩, by decide +kernel⟩
theorem lm_C_wide : Cond.methodLink RL 72 yX10_wide ∈ zTB := zmT3 226 (by decide +kernel) rfl
theorem lg_C_wide : Cond.code yX10_wide cX10_wide 3 (some .int) ∈ zTB ∧ Cond.initialized yX10_wide.cls ∈ zTB ∧ Cond.instanceMethod yX10_wide ∈ zTB ∧ Cond.selects yX10_wide.cls yX10_wide yX10_wide ∈ zTB := ⟨zmT3 229 rfl rfl, zmT1 1 rfl rfl, zmT3 227 rfl rfl, zmT3 228 rfl rfl⟩
theorem lp_C_wide : (yX10_wide.cls ≠ "java/lang/invoke/MethodHandle" ∧ yX10_wide.cls ≠ "java/lang/invoke/VarHandle") ∧ (parseMethodDescriptor yX10_wide.desc).map (fun d => d.parameters.length) = some 1 := ⟨⟨by decide, by decide⟩, by decide +kernel⟩
theorem lm_M_wide : Cond.methodLink RL 75 yX11_wide ∈ zTB := zmT7 52 (by decide +kernel) rfl
theorem lg_M_wide : Cond.code yX11_wide cX11_wide 2 (some .int) ∈ zTB ∧ Cond.initialized yX11_wide.cls ∈ zTB ∧ Cond.instanceMethod yX11_wide ∈ zTB ∧ Cond.selects yX11_wide.cls yX11_wide yX11_wide ∈ zTB := ⟨zmT7 55 rfl rfl, zmT1 6 rfl rfl, zmT7 53 rfl rfl, zmT7 54 rfl rfl⟩
theorem lp_M_wide : (yX11_wide.cls ≠ "java/lang/invoke/MethodHandle" ∧ yX11_wide.cls ≠ "java/lang/invoke/VarHandle") ∧ (parseMethodDescriptor yX11_wide.desc).map (fun d => d.parameters.length) = some 1 := ⟨⟨by decide, by decide⟩, by decide +kernel⟩
theorem lm_C_cut : Cond.methodLink RL 76 yX10_cut ∈ zTB := zmT4 50 (by decide +kernel) rfl
theorem lg_C_cut : Cond.code yX10_cut cX10_cut 5 (some .int) ∈ zTB ∧ Cond.initialized yX10_cut.cls ∈ zTB ∧ Cond.instanceMethod yX10_cut ∈ zTB ∧ Cond.selects yX10_cut.cls yX10_cut yX10_cut ∈ zTB := ⟨zmT4 53 rfl rfl, zmT1 1 rfl rfl, zmT4 51 rfl rfl, zmT4 52 rfl rfl⟩
theorem lp_C_cut : (yX10_cut.cls ≠ "java/lang/invoke/MethodHandle" ∧ yX10_cut.cls ≠ "java/lang/invoke/VarHandle") ∧ (parseMethodDescriptor yX10_cut.desc).map (fun d => d.parameters.length) = some 3 := ⟨⟨by decide, by decide⟩, by decide +kernel⟩
theorem lm_M_cut : Cond.methodLink RL 79 yX11_cut ∈ zTB := zmT7 77 (by decide +kernel) rfl
theorem lg_M_cut : Cond.code yX11_cut cX11_cut 5 (some .int) ∈ zTB ∧ Cond.initialized yX11_cut.cls ∈ zTB ∧ Cond.instanceMethod yX11_cut ∈ zTB ∧ Cond.selects yX11_cut.cls yX11_cut yX11_cut ∈ zTB := ⟨zmT7 80 rfl rfl, zmT1 6 rfl rfl, zmT7 78 rfl rfl, zmT7 79 rfl rfl⟩
theorem lp_M_cut : (yX11_cut.cls ≠ "java/lang/invoke/MethodHandle" ∧ yX11_cut.cls ≠ "java/lang/invoke/VarHandle") ∧ (parseMethodDescriptor yX11_cut.desc).map (fun d => d.parameters.length) = some 3 := ⟨⟨by decide, by decide⟩, by decide +kernel⟩
theorem lm_C_ring : Cond.methodLink RL 80 yX10_ring ∈ zTB := zmT4 58 (by decide +kernel) rfl
theorem lg_C_ring : Cond.code yX10_ring cX10_ring 5 (some .int) ∈ zTB ∧ Cond.initialized yX10_ring.cls ∈ zTB ∧ Cond.instanceMethod yX10_ring ∈ zTB ∧ Cond.selects yX10_ring.cls yX10_ring yX10_ring ∈ zTB := ⟨zmT4 61 rfl rfl, zmT1 1 rfl rfl, zmT4 59 rfl rfl, zmT4 60 rfl rfl⟩
theorem lp_C_ring : (yX10_ring.cls ≠ "java/lang/invoke/MethodHandle" ∧ yX10_ring.cls ≠ "java/lang/invoke/VarHandle") ∧ (parseMethodDescriptor yX10_ring.desc).map (fun d => d.parameters.length) = some 2 := ⟨⟨by decide, by decide⟩, by decide +kernel⟩
theorem lm_M_ring : Cond.methodLink RL 83 yX11_ring ∈ zTB := zmT7 81 (by decide +kernel) rfl
theorem lg_M_ring : Cond.code yX11_ring cX11_ring 8 (some .int) ∈ zTB ∧ Cond.initialized yX11_ring.cls ∈ zTB ∧ Cond.instanceMethod yX11_ring ∈ zTB ∧ Cond.selects yX11_ring.cls yX11_ring yX11_ring ∈ zTB := ⟨zmT7 84 rfl rfl, zmT1 6 rfl rfl, zmT7 82 rfl rfl, zmT7 83 rfl rfl⟩
theorem lp_M_ring : (yX11_ring.cls ≠ "java/lang/invoke/MethodHandle" ∧ yX11_ring.cls ≠ "java/lang/invoke/VarHandle") ∧ (parseMethodDescriptor yX11_ring.desc).map (fun d => d.parameters.length) = some 2 := ⟨⟨by decide, by decide⟩, by decide +kernel⟩
theorem lm_C_swap : Cond.methodLink RL 84 yX10_swap ∈ zTB := zmT4 75 (by decide +kernel) rfl
theorem lg_C_swap : Cond.code yX10_swap cX10_swap 3 (some .int) ∈ zTB ∧ Cond.initialized yX10_swap.cls ∈ zTB ∧ Cond.instanceMethod yX10_swap ∈ zTB ∧ Cond.selects yX10_swap.cls yX10_swap yX10_swap ∈ zTB := ⟨zmT4 78 rfl rfl, zmT1 1 rfl rfl, zmT4 76 rfl rfl, zmT4 77 rfl rfl⟩
theorem lp_C_swap : (yX10_swap.cls ≠ "java/lang/invoke/MethodHandle" ∧ yX10_swap.cls ≠ "java/lang/invoke/VarHandle") ∧ (parseMethodDescriptor yX10_swap.desc).map (fun d => d.parameters.length) = some 1 := ⟨⟨by decide, by decide⟩, by decide +kernel⟩
theorem lm_M_swap : Cond.methodLink RL 87 yX11_swap ∈ zTB := zmT7 89 (by decide +kernel) rfl
theorem lg_M_swap : Cond.code yX11_swap cX11_swap 14 (some .int) ∈ zTB ∧ Cond.initialized yX11_swap.cls ∈ zTB ∧ Cond.instanceMethod yX11_swap ∈ zTB ∧ Cond.selects yX11_swap.cls yX11_swap yX11_swap ∈ zTB := ⟨zmT7 92 rfl rfl, zmT1 6 rfl rfl, zmT7 90 rfl rfl, zmT7 91 rfl rfl⟩
theorem lp_M_swap : (yX11_swap.cls ≠ "java/lang/invoke/MethodHandle" ∧ yX11_swap.cls ≠ "java/lang/invoke/VarHandle") ∧ (parseMethodDescriptor yX11_swap.desc).map (fun d => d.parameters.length) = some 1 := ⟨⟨by decide, by decide⟩, by decide +kernel⟩
theorem lm_C_bag : Cond.methodLink RL 88 yX10_bag ∈ zTB := zmT4 128 (by decide +kernel) rfl
theorem lg_C_bag : Cond.code yX10_bag cX10_bag 3 (some .int) ∈ zTB ∧ Cond.initialized yX10_bag.cls ∈ zTB ∧ Cond.instanceMethod yX10_bag ∈ zTB ∧ Cond.selects yX10_bag.cls yX10_bag yX10_bag ∈ zTB := ⟨zmT4 131 rfl rfl, zmT1 1 rfl rfl, zmT4 129 rfl rfl, zmT4 130 rfl rfl⟩
theorem lp_C_bag : (yX10_bag.cls ≠ "java/lang/invoke/MethodHandle" ∧ yX10_bag.cls ≠ "java/lang/invoke/VarHandle") ∧ (parseMethodDescriptor yX10_bag.desc).map (fun d => d.parameters.length) = some 0 := ⟨⟨by decide, by decide⟩, by decide +kernel⟩
theorem lm_M_bag : Cond.methodLink RL 91 yX11_bag ∈ zTB := zmT7 101 (by decide +kernel) rfl
theorem lg_M_bag : Cond.code yX11_bag cX11_bag 4 (some .int) ∈ zTB ∧ Cond.initialized yX11_bag.cls ∈ zTB ∧ Cond.instanceMethod yX11_bag ∈ zTB ∧ Cond.selects yX11_bag.cls yX11_bag yX11_bag ∈ zTB := ⟨zmT7 104 rfl rfl, zmT1 6 rfl rfl, zmT7 102 rfl rfl, zmT7 103 rfl rfl⟩
theorem lp_M_bag : (yX11_bag.cls ≠ "java/lang/invoke/MethodHandle" ∧ yX11_bag.cls ≠ "java/lang/invoke/VarHandle") ∧ (parseMethodDescriptor yX11_bag.desc).map (fun d => d.parameters.length) = some 0 := ⟨⟨by decide, by decide⟩, by decide +kernel⟩
theorem lm_C_whose : Cond.methodLink RL 92 yX10_whose ∈ zTB := zmT4 136 (by decide +kernel) rfl
theorem lg_C_whose : Cond.code yX10_whose cX10_whose 7 (some .int) ∈ zTB ∧ Cond.initialized yX10_whose.cls ∈ zTB ∧ Cond.instanceMethod yX10_whose ∈ zTB ∧ Cond.selects yX10_whose.cls yX10_whose yX10_whose ∈ zTB := ⟨zmT4 139 rfl rfl, zmT1 1 rfl rfl, zmT4 137 rfl rfl, zmT4 138 rfl rfl⟩
theorem lp_C_whose : (yX10_whose.cls ≠ "java/lang/invoke/MethodHandle" ∧ yX10_whose.cls ≠ "java/lang/invoke/VarHandle") ∧ (parseMethodDescriptor yX10_whose.desc).map (fun d => d.parameters.length) = some 1 := ⟨⟨by decide, by decide⟩, by decide +kernel⟩
theorem lm_M_whose : Cond.methodLink RL 95 yX11_whose ∈ zTB := zmT7 105 (by decide +kernel) rfl
theorem lg_M_whose : Cond.code yX11_whose cX11_whose 10 (some .int) ∈ zTB ∧ Cond.initialized yX11_whose.cls ∈ zTB ∧ Cond.instanceMethod yX11_whose ∈ zTB ∧ Cond.selects yX11_whose.cls yX11_whose yX11_whose ∈ zTB := ⟨zmT7 108 rfl rfl, zmT1 6 rfl rfl, zmT7 106 rfl rfl, zmT7 107 rfl rfl⟩
theorem lp_M_whose : (yX11_whose.cls ≠ "java/lang/invoke/MethodHandle" ∧ yX11_whose.cls ≠ "java/lang/invoke/VarHandle") ∧ (parseMethodDescriptor yX11_whose.desc).map (fun d => d.parameters.length) = some 1 := ⟨⟨by decide, by decide⟩, by decide +kernel⟩
theorem lm_C_days : Cond.methodLink RL 96 yX10_days ∈ zTB := zmT4 153 (by decide +kernel) rfl
theorem lg_C_days : Cond.code yX10_days cX10_days 4 (some .int) ∈ zTB ∧ Cond.initialized yX10_days.cls ∈ zTB ∧ Cond.instanceMethod yX10_days ∈ zTB ∧ Cond.selects yX10_days.cls yX10_days yX10_days ∈ zTB := ⟨zmT4 156 rfl rfl, zmT1 1 rfl rfl, zmT4 154 rfl rfl, zmT4 155 rfl rfl⟩
theorem lp_C_days : (yX10_days.cls ≠ "java/lang/invoke/MethodHandle" ∧ yX10_days.cls ≠ "java/lang/invoke/VarHandle") ∧ (parseMethodDescriptor yX10_days.desc).map (fun d => d.parameters.length) = some 1 := ⟨⟨by decide, by decide⟩, by decide +kernel⟩
theorem lm_M_days : Cond.methodLink RL 99 yX11_days ∈ zTB := zmT7 113 (by decide +kernel) rfl
theorem lg_M_days : Cond.code yX11_days cX11_days 4 (some .int) ∈ zTB ∧ Cond.initialized yX11_days.cls ∈ zTB ∧ Cond.instanceMethod yX11_days ∈ zTB ∧ Cond.selects yX11_days.cls yX11_days yX11_days ∈ zTB := ⟨zmT7 116 rfl rfl, zmT1 6 rfl rfl, zmT7 114 rfl rfl, zmT7 115 rfl rfl⟩
theorem lp_M_days : (yX11_days.cls ≠ "java/lang/invoke/MethodHandle" ∧ yX11_days.cls ≠ "java/lang/invoke/VarHandle") ∧ (parseMethodDescriptor yX11_days.desc).map (fun d => d.parameters.length) = some 1 := ⟨⟨by decide, by decide⟩, by decide +kernel⟩
theorem lm_C_chance : Cond.methodLink RL 100 yX10_chance ∈ zTB := zmT4 165 (by decide +kernel) rfl
theorem lg_C_chance : Cond.code yX10_chance cX10_chance 4 (some .int) ∈ zTB ∧ Cond.initialized yX10_chance.cls ∈ zTB ∧ Cond.instanceMethod yX10_chance ∈ zTB ∧ Cond.selects yX10_chance.cls yX10_chance yX10_chance ∈ zTB := ⟨zmT4 168 rfl rfl, zmT1 1 rfl rfl, zmT4 166 rfl rfl, zmT4 167 rfl rfl⟩
theorem lp_C_chance : (yX10_chance.cls ≠ "java/lang/invoke/MethodHandle" ∧ yX10_chance.cls ≠ "java/lang/invoke/VarHandle") ∧ (parseMethodDescriptor yX10_chance.desc).map (fun d => d.parameters.length) = some 1 := ⟨⟨by decide, by decide⟩, by decide +kernel⟩
theorem lm_M_chance : Cond.methodLink RL 103 yX11_chance ∈ zTB := zmT7 121 (by decide +kernel) rfl
theorem lg_M_chance : Cond.code yX11_chance cX11_chance 4 (some .int) ∈ zTB ∧ Cond.initialized yX11_chance.cls ∈ zTB ∧ Cond.instanceMethod yX11_chance ∈ zTB ∧ Cond.selects yX11_chance.cls yX11_chance yX11_chance ∈ zTB := ⟨zmT7 124 rfl rfl, zmT1 6 rfl rfl, zmT7 122 rfl rfl, zmT7 123 rfl rfl⟩
theorem lp_M_chance : (yX11_chance.cls ≠ "java/lang/invoke/MethodHandle" ∧ yX11_chance.cls ≠ "java/lang/invoke/VarHandle") ∧ (parseMethodDescriptor yX11_chance.desc).map (fun d => d.parameters.length) = some 1 := ⟨⟨by decide, by decide⟩, by decide +kernel⟩
theorem lm_C_give : Cond.methodLink RL 104 yX10_give ∈ zTB := zmT4 169 (by decide +kernel) rfl
theorem lg_C_give : Cond.code yX10_give cX10_give 4 (some .boolean) ∈ zTB ∧ Cond.initialized yX10_give.cls ∈ zTB ∧ Cond.instanceMethod yX10_give ∈ zTB ∧ Cond.selects yX10_give.cls yX10_give yX10_give ∈ zTB := ⟨zmT4 172 rfl rfl, zmT1 1 rfl rfl, zmT4 170 rfl rfl, zmT4 171 rfl rfl⟩
theorem lp_C_give : (yX10_give.cls ≠ "java/lang/invoke/MethodHandle" ∧ yX10_give.cls ≠ "java/lang/invoke/VarHandle") ∧ (parseMethodDescriptor yX10_give.desc).map (fun d => d.parameters.length) = some 3 := ⟨⟨by decide, by decide⟩, by decide +kernel⟩
theorem lm_M_give : Cond.methodLink RL 108 yX11_give ∈ zTB := zmT7 125 (by decide +kernel) rfl
theorem lg_M_give : Cond.code yX11_give cX11_give 4 (some .boolean) ∈ zTB ∧ Cond.initialized yX11_give.cls ∈ zTB ∧ Cond.instanceMethod yX11_give ∈ zTB ∧ Cond.selects yX11_give.cls yX11_give yX11_give ∈ zTB := ⟨zmT7 128 rfl rfl, zmT1 6 rfl rfl, zmT7 126 rfl rfl, zmT7 127 rfl rfl⟩
theorem lp_M_give : (yX11_give.cls ≠ "java/lang/invoke/MethodHandle" ∧ yX11_give.cls ≠ "java/lang/invoke/VarHandle") ∧ (parseMethodDescriptor yX11_give.desc).map (fun d => d.parameters.length) = some 3 := ⟨⟨by decide, by decide⟩, by decide +kernel⟩
theorem lm_C_find : Cond.methodLink RL 109 yX10_find ∈ zTB := zmT4 177 (by decide +kernel) rfl
theorem lg_C_find : Cond.code yX10_find cX10_find 3 (some .boolean) ∈ zTB ∧ Cond.initialized yX10_find.cls ∈ zTB ∧ Cond.instanceMethod yX10_find ∈ zTB ∧ Cond.selects yX10_find.cls yX10_find yX10_find ∈ zTB := ⟨zmT4 180 rfl rfl, zmT1 1 rfl rfl, zmT4 178 rfl rfl, zmT4 179 rfl rfl⟩
theorem lp_C_find : (yX10_find.cls ≠ "java/lang/invoke/MethodHandle" ∧ yX10_find.cls ≠ "java/lang/invoke/VarHandle") ∧ (parseMethodDescriptor yX10_find.desc).map (fun d => d.parameters.length) = some 2 := ⟨⟨by decide, by decide⟩, by decide +kernel⟩
theorem lm_M_find : Cond.methodLink RL 113 yX11_find ∈ zTB := zmT7 129 (by decide +kernel) rfl
theorem lg_M_find : Cond.code yX11_find cX11_find 3 (some .boolean) ∈ zTB ∧ Cond.initialized yX11_find.cls ∈ zTB ∧ Cond.instanceMethod yX11_find ∈ zTB ∧ Cond.selects yX11_find.cls yX11_find yX11_find ∈ zTB := ⟨zmT7 132 rfl rfl, zmT1 6 rfl rfl, zmT7 130 rfl rfl, zmT7 131 rfl rfl⟩
theorem lp_M_find : (yX11_find.cls ≠ "java/lang/invoke/MethodHandle" ∧ yX11_find.cls ≠ "java/lang/invoke/VarHandle") ∧ (parseMethodDescriptor yX11_find.desc).map (fun d => d.parameters.length) = some 2 := ⟨⟨by decide, by decide⟩, by decide +kernel⟩
theorem lm_C_burn : Cond.methodLink RL 114 yX10_burn ∈ zTB := zmT4 181 (by decide +kernel) rfl
theorem lg_C_burn : Cond.code yX10_burn cX10_burn 4 (some .int) ∈ zTB ∧ Cond.initialized yX10_burn.cls ∈ zTB ∧ Cond.instanceMethod yX10_burn ∈ zTB ∧ Cond.selects yX10_burn.cls yX10_burn yX10_burn ∈ zTB := ⟨zmT4 184 rfl rfl, zmT1 1 rfl rfl, zmT4 182 rfl rfl, zmT4 183 rfl rfl⟩
theorem lp_C_burn : (yX10_burn.cls ≠ "java/lang/invoke/MethodHandle" ∧ yX10_burn.cls ≠ "java/lang/invoke/VarHandle") ∧ (parseMethodDescriptor yX10_burn.desc).map (fun d => d.parameters.length) = some 2 := ⟨⟨by decide, by decide⟩, by decide +kernel⟩
theorem lm_M_burn : Cond.methodLink RL 117 yX11_burn ∈ zTB := zmT7 133 (by decide +kernel) rfl
theorem lg_M_burn : Cond.code yX11_burn cX11_burn 4 (some .int) ∈ zTB ∧ Cond.initialized yX11_burn.cls ∈ zTB ∧ Cond.instanceMethod yX11_burn ∈ zTB ∧ Cond.selects yX11_burn.cls yX11_burn yX11_burn ∈ zTB := ⟨zmT7 136 rfl rfl, zmT1 6 rfl rfl, zmT7 134 rfl rfl, zmT7 135 rfl rfl⟩
theorem lp_M_burn : (yX11_burn.cls ≠ "java/lang/invoke/MethodHandle" ∧ yX11_burn.cls ≠ "java/lang/invoke/VarHandle") ∧ (parseMethodDescriptor yX11_burn.desc).map (fun d => d.parameters.length) = some 2 := ⟨⟨by decide, by decide⟩, by decide +kernel⟩
theorem lm_C_undo : Cond.methodLink RL 118 yX10_undo ∈ zTB := zmT4 185 (by decide +kernel) rfl
theorem lg_C_undo : Cond.code yX10_undo cX10_undo 2 (some .boolean) ∈ zTB ∧ Cond.initialized yX10_undo.cls ∈ zTB ∧ Cond.instanceMethod yX10_undo ∈ zTB ∧ Cond.selects yX10_undo.cls yX10_undo yX10_undo ∈ zTB := ⟨zmT4 188 rfl rfl, zmT1 1 rfl rfl, zmT4 186 rfl rfl, zmT4 187 rfl rfl⟩
theorem lp_C_undo : (yX10_undo.cls ≠ "java/lang/invoke/MethodHandle" ∧ yX10_undo.cls ≠ "java/lang/invoke/VarHandle") ∧ (parseMethodDescriptor yX10_undo.desc).map (fun d => d.parameters.length) = some 0 := ⟨⟨by decide, by decide⟩, by decide +kernel⟩
theorem lm_M_undo : Cond.methodLink RL 122 yX11_undo ∈ zTB := zmT6 156 (by decide +kernel) rfl
theorem lg_M_undo : Cond.code yX11_undo cX11_undo 1 (some .boolean) ∈ zTB ∧ Cond.initialized yX11_undo.cls ∈ zTB ∧ Cond.instanceMethod yX11_undo ∈ zTB ∧ Cond.selects yX11_undo.cls yX11_undo yX11_undo ∈ zTB := ⟨zmT6 159 rfl rfl, zmT1 6 rfl rfl, zmT6 157 rfl rfl, zmT6 158 rfl rfl⟩
theorem lp_M_undo : (yX11_undo.cls ≠ "java/lang/invoke/MethodHandle" ∧ yX11_undo.cls ≠ "java/lang/invoke/VarHandle") ∧ (parseMethodDescriptor yX11_undo.desc).map (fun d => d.parameters.length) = some 0 := ⟨⟨by decide, by decide⟩, by decide +kernel⟩
theorem lm_C_seed : Cond.methodLink RL 123 yX10_seed ∈ zTB := zmT4 189 (by decide +kernel) rfl
theorem lg_C_seed : Cond.code yX10_seed cX10_seed 2 (some .boolean) ∈ zTB ∧ Cond.initialized yX10_seed.cls ∈ zTB ∧ Cond.instanceMethod yX10_seed ∈ zTB ∧ Cond.selects yX10_seed.cls yX10_seed yX10_seed ∈ zTB := ⟨zmT4 192 rfl rfl, zmT1 1 rfl rfl, zmT4 190 rfl rfl, zmT4 191 rfl rfl⟩
theorem lp_C_seed : (yX10_seed.cls ≠ "java/lang/invoke/MethodHandle" ∧ yX10_seed.cls ≠ "java/lang/invoke/VarHandle") ∧ (parseMethodDescriptor yX10_seed.desc).map (fun d => d.parameters.length) = some 1 := ⟨⟨by decide, by decide⟩, by decide +kernel⟩
theorem lm_M_seed : Cond.methodLink RL 126 yX11_seed ∈ zTB := zmT7 137 (by decide +kernel) rfl
theorem lg_M_seed : Cond.code yX11_seed cX11_seed 2 (some .boolean) ∈ zTB ∧ Cond.initialized yX11_seed.cls ∈ zTB ∧ Cond.instanceMethod yX11_seed ∈ zTB ∧ Cond.selects yX11_seed.cls yX11_seed yX11_seed ∈ zTB := ⟨zmT7 140 rfl rfl, zmT1 6 rfl rfl, zmT7 138 rfl rfl, zmT7 139 rfl rfl⟩
theorem lp_M_seed : (yX11_seed.cls ≠ "java/lang/invoke/MethodHandle" ∧ yX11_seed.cls ≠ "java/lang/invoke/VarHandle") ∧ (parseMethodDescriptor yX11_seed.desc).map (fun d => d.parameters.length) = some 1 := ⟨⟨by decide, by decide⟩, by decide +kernel⟩
theorem lm_C_kept : Cond.methodLink RL 127 yX10_kept ∈ zTB := zmT4 193 (by decide +kernel) rfl
theorem lg_C_kept : Cond.code yX10_kept cX10_kept 3 (some .int) ∈ zTB ∧ Cond.initialized yX10_kept.cls ∈ zTB ∧ Cond.instanceMethod yX10_kept ∈ zTB ∧ Cond.selects yX10_kept.cls yX10_kept yX10_kept ∈ zTB := ⟨zmT4 196 rfl rfl, zmT1 1 rfl rfl, zmT4 194 rfl rfl, zmT4 195 rfl rfl⟩
theorem lp_C_kept : (yX10_kept.cls ≠ "java/lang/invoke/MethodHandle" ∧ yX10_kept.cls ≠ "java/lang/invoke/VarHandle") ∧ (parseMethodDescriptor yX10_kept.desc).map (fun d => d.parameters.length) = some 2 := ⟨⟨by decide, by decide⟩, by decide +kernel⟩
theorem lm_M_kept : Cond.methodLink RL 130 yX11_kept ∈ zTB := zmT7 141 (by decide +kernel) rfl
theorem lg_M_kept : Cond.code yX11_kept cX11_kept 3 (some .int) ∈ zTB ∧ Cond.initialized yX11_kept.cls ∈ zTB ∧ Cond.instanceMethod yX11_kept ∈ zTB ∧ Cond.selects yX11_kept.cls yX11_kept yX11_kept ∈ zTB := ⟨zmT7 144 rfl rfl, zmT1 6 rfl rfl, zmT7 142 rfl rfl, zmT7 143 rfl rfl⟩
theorem lp_M_kept : (yX11_kept.cls ≠ "java/lang/invoke/MethodHandle" ∧ yX11_kept.cls ≠ "java/lang/invoke/VarHandle") ∧ (parseMethodDescriptor yX11_kept.desc).map (fun d => d.parameters.length) = some 2 := ⟨⟨by decide, by decide⟩, by decide +kernel⟩
theorem lm_C_image : Cond.methodLink RL 131 yX10_image ∈ zTB := zmT4 201 (by decide +kernel) rfl
theorem lg_C_image : Cond.code yX10_image cX10_image 3 (some .int) ∈ zTB ∧ Cond.initialized yX10_image.cls ∈ zTB ∧ Cond.instanceMethod yX10_image ∈ zTB ∧ Cond.selects yX10_image.cls yX10_image yX10_image ∈ zTB := ⟨zmT4 204 rfl rfl, zmT1 1 rfl rfl, zmT4 202 rfl rfl, zmT4 203 rfl rfl⟩
theorem lp_C_image : (yX10_image.cls ≠ "java/lang/invoke/MethodHandle" ∧ yX10_image.cls ≠ "java/lang/invoke/VarHandle") ∧ (parseMethodDescriptor yX10_image.desc).map (fun d => d.parameters.length) = some 0 := ⟨⟨by decide, by decide⟩, by decide +kernel⟩
theorem lm_M_image : Cond.methodLink RL 134 yX11_image ∈ zTB := zmT7 145 (by decide +kernel) rfl
theorem lg_M_image : Cond.code yX11_image cX11_image 3 (some .int) ∈ zTB ∧ Cond.initialized yX11_image.cls ∈ zTB ∧ Cond.instanceMethod yX11_image ∈ zTB ∧ Cond.selects yX11_image.cls yX11_image yX11_image ∈ zTB := ⟨zmT7 148 rfl rfl, zmT1 6 rfl rfl, zmT7 146 rfl rfl, zmT7 147 rfl rfl⟩
theorem lp_M_image : (yX11_image.cls ≠ "java/lang/invoke/MethodHandle" ∧ yX11_image.cls ≠ "java/lang/invoke/VarHandle") ∧ (parseMethodDescriptor yX11_image.desc).map (fun d => d.parameters.length) = some 0 := ⟨⟨by decide, by decide⟩, by decide +kernel⟩
theorem lm_C_octet : Cond.methodLink RL 135 yX10_octet ∈ zTB := zmT4 212 (by decide +kernel) rfl
theorem lg_C_octet : Cond.code yX10_octet cX10_octet 2 (some .int) ∈ zTB ∧ Cond.initialized yX10_octet.cls ∈ zTB ∧ Cond.instanceMethod yX10_octet ∈ zTB ∧ Cond.selects yX10_octet.cls yX10_octet yX10_octet ∈ zTB := ⟨zmT4 215 rfl rfl, zmT1 1 rfl rfl, zmT4 213 rfl rfl, zmT4 214 rfl rfl⟩
theorem lp_C_octet : (yX10_octet.cls ≠ "java/lang/invoke/MethodHandle" ∧ yX10_octet.cls ≠ "java/lang/invoke/VarHandle") ∧ (parseMethodDescriptor yX10_octet.desc).map (fun d => d.parameters.length) = some 1 := ⟨⟨by decide, by decide⟩, by decide +kernel⟩
theorem lm_M_octet : Cond.methodLink RL 138 yX11_octet ∈ zTB := zmT7 153 (by decide +kernel) rfl
theorem lg_M_octet : Cond.code yX11_octet cX11_octet 2 (some .int) ∈ zTB ∧ Cond.initialized yX11_octet.cls ∈ zTB ∧ Cond.instanceMethod yX11_octet ∈ zTB ∧ Cond.selects yX11_octet.cls yX11_octet yX11_octet ∈ zTB := ⟨zmT7 156 rfl rfl, zmT1 6 rfl rfl, zmT7 154 rfl rfl, zmT7 155 rfl rfl⟩
theorem lp_M_octet : (yX11_octet.cls ≠ "java/lang/invoke/MethodHandle" ∧ yX11_octet.cls ≠ "java/lang/invoke/VarHandle") ∧ (parseMethodDescriptor yX11_octet.desc).map (fun d => d.parameters.length) = some 1 := ⟨⟨by decide, by decide⟩, by decide +kernel⟩
theorem lm_C_on : Cond.methodLink RL 139 yX10_on ∈ zTB := zmT4 216 (by decide +kernel) rfl
theorem lg_C_on : Cond.code yX10_on cX10_on 2 (some .boolean) ∈ zTB ∧ Cond.initialized yX10_on.cls ∈ zTB ∧ Cond.instanceMethod yX10_on ∈ zTB ∧ Cond.selects yX10_on.cls yX10_on yX10_on ∈ zTB := ⟨zmT4 219 rfl rfl, zmT1 1 rfl rfl, zmT4 217 rfl rfl, zmT4 218 rfl rfl⟩
theorem lp_C_on : (yX10_on.cls ≠ "java/lang/invoke/MethodHandle" ∧ yX10_on.cls ≠ "java/lang/invoke/VarHandle") ∧ (parseMethodDescriptor yX10_on.desc).map (fun d => d.parameters.length) = some 0 := ⟨⟨by decide, by decide⟩, by decide +kernel⟩
theorem lm_M_on : Cond.methodLink RL 142 yX11_on ∈ zTB := zmT7 157 (by decide +kernel) rfl
theorem lg_M_on : Cond.code yX11_on cX11_on 2 (some .boolean) ∈ zTB ∧ Cond.initialized yX11_on.cls ∈ zTB ∧ Cond.instanceMethod yX11_on ∈ zTB ∧ Cond.selects yX11_on.cls yX11_on yX11_on ∈ zTB := ⟨zmT7 160 rfl rfl, zmT1 6 rfl rfl, zmT7 158 rfl rfl, zmT7 159 rfl rfl⟩
theorem lp_M_on : (yX11_on.cls ≠ "java/lang/invoke/MethodHandle" ∧ yX11_on.cls ≠ "java/lang/invoke/VarHandle") ∧ (parseMethodDescriptor yX11_on.desc).map (fun d => d.parameters.length) = some 0 := ⟨⟨by decide, by decide⟩, by decide +kernel⟩
theorem lm_C_status : Cond.methodLink RL 143 yX10_status ∈ zTB := zmT4 236 (by decide +kernel) rfl
theorem lg_C_status : Cond.code yX10_status cX10_status 2 (some .int) ∈ zTB ∧ Cond.initialized yX10_status.cls ∈ zTB ∧ Cond.instanceMethod yX10_status ∈ zTB ∧ Cond.selects yX10_status.cls yX10_status yX10_status ∈ zTB := ⟨zmT4 239 rfl rfl, zmT1 1 rfl rfl, zmT4 237 rfl rfl, zmT4 238 rfl rfl⟩
theorem lp_C_status : (yX10_status.cls ≠ "java/lang/invoke/MethodHandle" ∧ yX10_status.cls ≠ "java/lang/invoke/VarHandle") ∧ (parseMethodDescriptor yX10_status.desc).map (fun d => d.parameters.length) = some 1 := ⟨⟨by decide, by decide⟩, by decide +kernel⟩
theorem lm_M_status : Cond.methodLink RL 146 yX11_status ∈ zTB := zmT6 152 (by decide +kernel) rfl
theorem lg_M_status : Cond.code yX11_status cX11_status 2 (some .int) ∈ zTB ∧ Cond.initialized yX11_status.cls ∈ zTB ∧ Cond.instanceMethod yX11_status ∈ zTB ∧ Cond.selects yX11_status.cls yX11_status yX11_status ∈ zTB := ⟨zmT6 155 rfl rfl, zmT1 6 rfl rfl, zmT6 153 rfl rfl, zmT6 154 rfl rfl⟩
theorem lp_M_status : (yX11_status.cls ≠ "java/lang/invoke/MethodHandle" ∧ yX11_status.cls ≠ "java/lang/invoke/VarHandle") ∧ (parseMethodDescriptor yX11_status.desc).map (fun d => d.parameters.length) = some 1 := ⟨⟨by decide, by decide⟩, by decide +kernel⟩
theorem ln_C : Cond.classLink RL 7 RX10 ∈ zTB ∧ Cond.instantiable RX10 17 ∈ zTB ∧ Cond.initialized RX10 ∈ zTB := ⟨zmT1 20 (by decide +kernel) rfl, zmT1 21 (by decide +kernel) rfl, zmT1 1 (by decide +kernel) rfl⟩
theorem lm_C_init : Cond.methodLink RL 9 yX10_init ∈ zTB := zmT1 22 (by decide +kernel) rfl
theorem lg_C_init : Cond.code yX10_init cX10_init 1 (none) ∈ zTB ∧ Cond.initialized yX10_init.cls ∈ zTB ∧ Cond.instanceMethod yX10_init ∈ zTB ∧ yX10_init.name = "<init>" := ⟨zmT1 24 rfl rfl, zmT1 1 rfl rfl, zmT1 23 rfl rfl, rfl⟩
theorem lp_C_init : (yX10_init.cls ≠ "java/lang/invoke/MethodHandle" ∧ yX10_init.cls ≠ "java/lang/invoke/VarHandle") ∧ (parseMethodDescriptor yX10_init.desc).map (fun d => d.parameters.length) = some 0 := ⟨⟨by decide, by decide⟩, by decide +kernel⟩
theorem ln_M : Cond.classLink RL 10 RX11 ∈ zTB ∧ Cond.instantiable RX11 65 ∈ zTB ∧ Cond.initialized RX11 ∈ zTB := ⟨zmT5 0 (by decide +kernel) rfl, zmT5 1 (by decide +kernel) rfl, zmT1 6 (by decide +kernel) rfl⟩
theorem lm_M_init : Cond.methodLink RL 12 yX11_init ∈ zTB := zmT5 2 (by decide +kernel) rfl
theorem lg_M_init : Cond.code yX11_init cX11_init 2 (none) ∈ zTB ∧ Cond.initialized yX11_init.cls ∈ zTB ∧ Cond.instanceMethod yX11_init ∈ zTB ∧ yX11_init.name = "<init>" := ⟨zmT5 4 rfl rfl, zmT1 6 rfl rfl, zmT5 3 rfl rfl, rfl⟩
theorem lp_M_init : (yX11_init.cls ≠ "java/lang/invoke/MethodHandle" ∧ yX11_init.cls ≠ "java/lang/invoke/VarHandle") ∧ (parseMethodDescriptor yX11_init.desc).map (fun d => d.parameters.length) = some 0 := ⟨⟨by decide, by decide⟩, by decide +kernel⟩

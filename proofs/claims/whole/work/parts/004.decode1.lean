theorem d_Ref_known_214 : decode b_Ref_known 214 = .ok (.iload_n 3, 1) := by decide +kernel
theorem d_Ref_known_215 : decode b_Ref_known 215 = .ok (.iload 7, 2) := by decide +kernel
theorem d_Ref_known_217 : decode b_Ref_known 217 = .ok (.if_icmp .lt 5, 3) := by decide +kernel
theorem d_Ref_known_220 : decode b_Ref_known 220 = .ok (.iconst 0, 1) := by decide +kernel
theorem d_Ref_known_221 : decode b_Ref_known 221 = .ok (.ireturn, 1) := by decide +kernel
theorem d_Ref_known_222 : decode b_Ref_known 222 = .ok (.aload_n 0, 1) := by decide +kernel
theorem d_Ref_known_223 : decode b_Ref_known 223 = .ok (.getfield 53, 3) := by decide +kernel
theorem d_Ref_known_226 : decode b_Ref_known 226 = .ok (.bipush 41, 2) := by decide +kernel
theorem d_Ref_known_228 : decode b_Ref_known 228 = .ok (.bipush 8, 2) := by decide +kernel
theorem d_Ref_known_230 : decode b_Ref_known 230 = .ok (.iload 5, 2) := by decide +kernel
theorem d_Ref_known_232 : decode b_Ref_known 232 = .ok (.imul, 1) := by decide +kernel
theorem d_Ref_known_233 : decode b_Ref_known 233 = .ok (.iadd, 1) := by decide +kernel
theorem d_Ref_known_234 : decode b_Ref_known 234 = .ok (.iload_n 3, 1) := by decide +kernel
theorem d_Ref_known_235 : decode b_Ref_known 235 = .ok (.iadd, 1) := by decide +kernel
theorem d_Ref_known_236 : decode b_Ref_known 236 = .ok (.iaload, 1) := by decide +kernel
theorem d_Ref_known_237 : decode b_Ref_known 237 = .ok (.istore 10, 2) := by decide +kernel
theorem d_Ref_known_239 : decode b_Ref_known 239 = .ok (.aload_n 0, 1) := by decide +kernel
theorem d_Ref_known_240 : decode b_Ref_known 240 = .ok (.getfield 53, 3) := by decide +kernel
theorem d_Ref_known_243 : decode b_Ref_known 243 = .ok (.iload_n 1, 1) := by decide +kernel
theorem d_Ref_known_244 : decode b_Ref_known 244 = .ok (.dup2, 1) := by decide +kernel
theorem d_Ref_known_245 : decode b_Ref_known 245 = .ok (.iaload, 1) := by decide +kernel
theorem d_Ref_known_246 : decode b_Ref_known 246 = .ok (.iconst 1, 1) := by decide +kernel
theorem d_Ref_known_247 : decode b_Ref_known 247 = .ok (.iadd, 1) := by decide +kernel
theorem d_Ref_known_248 : decode b_Ref_known 248 = .ok (.iastore, 1) := by decide +kernel
theorem d_Ref_known_249 : decode b_Ref_known 249 = .ok (.aload_n 0, 1) := by decide +kernel
theorem d_Ref_known_250 : decode b_Ref_known 250 = .ok (.iload_n 1, 1) := by decide +kernel
theorem d_Ref_known_251 : decode b_Ref_known 251 = .ok (.iload 10, 2) := by decide +kernel
theorem d_Ref_known_253 : decode b_Ref_known 253 = .ok (.invokevirtual 223, 3) := by decide +kernel
theorem d_Ref_known_256 : decode b_Ref_known 256 = .ok (.aload_n 0, 1) := by decide +kernel
theorem d_Ref_known_257 : decode b_Ref_known 257 = .ok (.getfield 53, 3) := by decide +kernel
theorem d_Ref_known_260 : decode b_Ref_known 260 = .ok (.iconst 4, 1) := by decide +kernel
theorem d_Ref_known_261 : decode b_Ref_known 261 = .ok (.iconst 2, 1) := by decide +kernel
theorem d_Ref_known_262 : decode b_Ref_known 262 = .ok (.iload_n 1, 1) := by decide +kernel
theorem d_Ref_known_263 : decode b_Ref_known 263 = .ok (.imul, 1) := by decide +kernel
theorem d_Ref_known_264 : decode b_Ref_known 264 = .ok (.iadd, 1) := by decide +kernel
theorem d_Ref_known_265 : decode b_Ref_known 265 = .ok (.aload_n 0, 1) := by decide +kernel
theorem d_Ref_known_266 : decode b_Ref_known 266 = .ok (.getfield 19, 3) := by decide +kernel
theorem d_Ref_known_269 : decode b_Ref_known 269 = .ok (.iload_n 2, 1) := by decide +kernel
theorem d_Ref_known_270 : decode b_Ref_known 270 = .ok (.iaload, 1) := by decide +kernel
theorem d_Ref_known_271 : decode b_Ref_known 271 = .ok (.iadd, 1) := by decide +kernel
theorem d_Ref_known_272 : decode b_Ref_known 272 = .ok (.aload_n 0, 1) := by decide +kernel
theorem d_Ref_known_273 : decode b_Ref_known 273 = .ok (.getfield 53, 3) := by decide +kernel
theorem d_Ref_known_276 : decode b_Ref_known 276 = .ok (.bipush 73, 2) := by decide +kernel
theorem d_Ref_known_278 : decode b_Ref_known 278 = .ok (.iload 10, 2) := by decide +kernel
theorem d_Ref_known_280 : decode b_Ref_known 280 = .ok (.iadd, 1) := by decide +kernel
theorem d_Ref_known_281 : decode b_Ref_known 281 = .ok (.iaload, 1) := by decide +kernel
theorem d_Ref_known_282 : decode b_Ref_known 282 = .ok (.iastore, 1) := by decide +kernel
theorem d_Ref_known_283 : decode b_Ref_known 283 = .ok (.iconst 1, 1) := by decide +kernel
theorem d_Ref_known_284 : decode b_Ref_known 284 = .ok (.ireturn, 1) := by decide +kernel
theorem d_Ref_known_285 : decode b_Ref_known 285 = .ok (.iload 4, 2) := by decide +kernel
theorem d_Ref_known_287 : decode b_Ref_known 287 = .ok (.iconst 3, 1) := by decide +kernel
theorem d_Ref_known_288 : decode b_Ref_known 288 = .ok (.if_icmp .ne 113, 3) := by decide +kernel
theorem d_Ref_known_291 : decode b_Ref_known 291 = .ok (.iload_n 3, 1) := by decide +kernel
theorem d_Ref_known_292 : decode b_Ref_known 292 = .ok (.iload 6, 2) := by decide +kernel
theorem d_Ref_known_294 : decode b_Ref_known 294 = .ok (.if_icmp .lt 14, 3) := by decide +kernel
theorem d_Ref_known_297 : decode b_Ref_known 297 = .ok (.iload_n 3, 1) := by decide +kernel
theorem d_Ref_known_298 : decode b_Ref_known 298 = .ok (.iload 7, 2) := by decide +kernel
theorem d_Ref_known_300 : decode b_Ref_known 300 = .ok (.if_icmp .ge 8, 3) := by decide +kernel
theorem d_Ref_known_303 : decode b_Ref_known 303 = .ok (.iload 8, 2) := by decide +kernel
theorem d_Ref_known_305 : decode b_Ref_known 305 = .ok (.ifCond .eq 5, 3) := by decide +kernel
theorem d_Ref_known_308 : decode b_Ref_known 308 = .ok (.iconst 0, 1) := by decide +kernel
theorem d_Ref_known_309 : decode b_Ref_known 309 = .ok (.ireturn, 1) := by decide +kernel
theorem d_Ref_known_310 : decode b_Ref_known 310 = .ok (.aload_n 0, 1) := by decide +kernel
theorem d_Ref_known_311 : decode b_Ref_known 311 = .ok (.getfield 53, 3) := by decide +kernel
theorem d_Ref_known_314 : decode b_Ref_known 314 = .ok (.bipush 41, 2) := by decide +kernel
theorem d_Ref_known_316 : decode b_Ref_known 316 = .ok (.bipush 8, 2) := by decide +kernel
theorem d_Ref_known_318 : decode b_Ref_known 318 = .ok (.iload 5, 2) := by decide +kernel
theorem d_Ref_known_320 : decode b_Ref_known 320 = .ok (.imul, 1) := by decide +kernel
theorem d_Ref_known_321 : decode b_Ref_known 321 = .ok (.iadd, 1) := by decide +kernel
theorem d_Ref_known_322 : decode b_Ref_known 322 = .ok (.iload_n 3, 1) := by decide +kernel
theorem d_Ref_known_323 : decode b_Ref_known 323 = .ok (.iadd, 1) := by decide +kernel
theorem d_Ref_known_324 : decode b_Ref_known 324 = .ok (.iaload, 1) := by decide +kernel
theorem d_Ref_known_325 : decode b_Ref_known 325 = .ok (.istore 10, 2) := by decide +kernel
theorem d_Ref_known_327 : decode b_Ref_known 327 = .ok (.aload_n 0, 1) := by decide +kernel
theorem d_Ref_known_328 : decode b_Ref_known 328 = .ok (.getfield 53, 3) := by decide +kernel
theorem d_Ref_known_331 : decode b_Ref_known 331 = .ok (.iload_n 1, 1) := by decide +kernel
theorem d_Ref_known_332 : decode b_Ref_known 332 = .ok (.dup2, 1) := by decide +kernel
theorem d_Ref_known_333 : decode b_Ref_known 333 = .ok (.iaload, 1) := by decide +kernel
theorem d_Ref_known_334 : decode b_Ref_known 334 = .ok (.iconst 1, 1) := by decide +kernel
theorem d_Ref_known_335 : decode b_Ref_known 335 = .ok (.iadd, 1) := by decide +kernel
theorem d_Ref_known_336 : decode b_Ref_known 336 = .ok (.iastore, 1) := by decide +kernel
theorem d_Ref_known_337 : decode b_Ref_known 337 = .ok (.aload_n 0, 1) := by decide +kernel
theorem d_Ref_known_338 : decode b_Ref_known 338 = .ok (.iload_n 1, 1) := by decide +kernel
theorem d_Ref_known_339 : decode b_Ref_known 339 = .ok (.iload 10, 2) := by decide +kernel
theorem d_Ref_known_341 : decode b_Ref_known 341 = .ok (.invokevirtual 223, 3) := by decide +kernel
theorem d_Ref_known_344 : decode b_Ref_known 344 = .ok (.aload_n 0, 1) := by decide +kernel
theorem d_Ref_known_345 : decode b_Ref_known 345 = .ok (.getfield 53, 3) := by decide +kernel
theorem d_Ref_known_348 : decode b_Ref_known 348 = .ok (.iconst 4, 1) := by decide +kernel
theorem d_Ref_known_349 : decode b_Ref_known 349 = .ok (.iconst 2, 1) := by decide +kernel
theorem d_Ref_known_350 : decode b_Ref_known 350 = .ok (.iload_n 1, 1) := by decide +kernel
theorem d_Ref_known_351 : decode b_Ref_known 351 = .ok (.imul, 1) := by decide +kernel
theorem d_Ref_known_352 : decode b_Ref_known 352 = .ok (.iadd, 1) := by decide +kernel
theorem d_Ref_known_353 : decode b_Ref_known 353 = .ok (.aload_n 0, 1) := by decide +kernel
theorem d_Ref_known_354 : decode b_Ref_known 354 = .ok (.getfield 19, 3) := by decide +kernel
theorem d_Ref_known_357 : decode b_Ref_known 357 = .ok (.iload_n 2, 1) := by decide +kernel
theorem d_Ref_known_358 : decode b_Ref_known 358 = .ok (.iaload, 1) := by decide +kernel
theorem d_Ref_known_359 : decode b_Ref_known 359 = .ok (.iadd, 1) := by decide +kernel
theorem d_Ref_known_360 : decode b_Ref_known 360 = .ok (.aload_n 0, 1) := by decide +kernel
theorem d_Ref_known_361 : decode b_Ref_known 361 = .ok (.getfield 53, 3) := by decide +kernel
theorem d_Ref_known_364 : decode b_Ref_known 364 = .ok (.bipush 73, 2) := by decide +kernel
theorem d_Ref_known_366 : decode b_Ref_known 366 = .ok (.iload 10, 2) := by decide +kernel
theorem d_Ref_known_368 : decode b_Ref_known 368 = .ok (.iadd, 1) := by decide +kernel
theorem d_Ref_known_369 : decode b_Ref_known 369 = .ok (.iaload, 1) := by decide +kernel
theorem d_Ref_known_370 : decode b_Ref_known 370 = .ok (.iastore, 1) := by decide +kernel
theorem d_Ref_known_371 : decode b_Ref_known 371 = .ok (.aload_n 0, 1) := by decide +kernel
theorem d_Ref_known_372 : decode b_Ref_known 372 = .ok (.iload_n 1, 1) := by decide +kernel
theorem d_Ref_known_373 : decode b_Ref_known 373 = .ok (.iload 5, 2) := by decide +kernel
theorem d_Ref_known_375 : decode b_Ref_known 375 = .ok (.iload_n 3, 1) := by decide +kernel
theorem d_Ref_known_376 : decode b_Ref_known 376 = .ok (.iconst 1, 1) := by decide +kernel
theorem d_Ref_known_377 : decode b_Ref_known 377 = .ok (.iadd, 1) := by decide +kernel
theorem d_Ref_known_378 : decode b_Ref_known 378 = .ok (.aload_n 0, 1) := by decide +kernel
theorem d_Ref_known_379 : decode b_Ref_known 379 = .ok (.getfield 53, 3) := by decide +kernel
theorem d_Ref_known_382 : decode b_Ref_known 382 = .ok (.bipush 73, 2) := by decide +kernel
theorem d_Ref_known_384 : decode b_Ref_known 384 = .ok (.iload 10, 2) := by decide +kernel
theorem d_Ref_known_386 : decode b_Ref_known 386 = .ok (.iadd, 1) := by decide +kernel
theorem d_Ref_known_387 : decode b_Ref_known 387 = .ok (.iaload, 1) := by decide +kernel
theorem d_Ref_known_388 : decode b_Ref_known 388 = .ok (.aload_n 0, 1) := by decide +kernel
theorem d_Ref_known_389 : decode b_Ref_known 389 = .ok (.getfield 22, 3) := by decide +kernel
theorem d_Ref_known_392 : decode b_Ref_known 392 = .ok (.iload_n 2, 1) := by decide +kernel
theorem d_Ref_known_393 : decode b_Ref_known 393 = .ok (.iaload, 1) := by decide +kernel
theorem d_Ref_known_394 : decode b_Ref_known 394 = .ok (.iadd, 1) := by decide +kernel
theorem d_Ref_known_395 : decode b_Ref_known 395 = .ok (.iconst 1, 1) := by decide +kernel
theorem d_Ref_known_396 : decode b_Ref_known 396 = .ok (.invokevirtual 227, 3) := by decide +kernel
theorem d_Ref_known_399 : decode b_Ref_known 399 = .ok (.iconst 1, 1) := by decide +kernel
theorem d_Ref_known_400 : decode b_Ref_known 400 = .ok (.ireturn, 1) := by decide +kernel
theorem d_Ref_known_401 : decode b_Ref_known 401 = .ok (.iload_n 3, 1) := by decide +kernel
theorem d_Ref_known_402 : decode b_Ref_known 402 = .ok (.iload 6, 2) := by decide +kernel
theorem d_Ref_known_404 : decode b_Ref_known 404 = .ok (.if_icmp .le 14, 3) := by decide +kernel
theorem d_Ref_known_407 : decode b_Ref_known 407 = .ok (.iload_n 3, 1) := by decide +kernel
theorem d_Ref_known_408 : decode b_Ref_known 408 = .ok (.iload 7, 2) := by decide +kernel
theorem d_Ref_known_410 : decode b_Ref_known 410 = .ok (.if_icmp .gt 8, 3) := by decide +kernel
theorem d_Ref_known_413 : decode b_Ref_known 413 = .ok (.iload 9, 2) := by decide +kernel
theorem d_Ref_known_415 : decode b_Ref_known 415 = .ok (.ifCond .eq 5, 3) := by decide +kernel
theorem d_Ref_known_418 : decode b_Ref_known 418 = .ok (.iconst 0, 1) := by decide +kernel
theorem d_Ref_known_419 : decode b_Ref_known 419 = .ok (.ireturn, 1) := by decide +kernel
theorem d_Ref_known_420 : decode b_Ref_known 420 = .ok (.aload_n 0, 1) := by decide +kernel
theorem d_Ref_known_421 : decode b_Ref_known 421 = .ok (.iload_n 1, 1) := by decide +kernel
theorem d_Ref_known_422 : decode b_Ref_known 422 = .ok (.iload_n 2, 1) := by decide +kernel
theorem d_Ref_known_423 : decode b_Ref_known 423 = .ok (.invokevirtual 216, 3) := by decide +kernel
theorem d_Ref_known_426 : decode b_Ref_known 426 = .ok (.istore 10, 2) := by decide +kernel
theorem d_Ref_known_428 : decode b_Ref_known 428 = .ok (.aload_n 0, 1) := by decide +kernel
theorem d_Ref_known_429 : decode b_Ref_known 429 = .ok (.getfield 53, 3) := by decide +kernel
theorem d_Ref_known_432 : decode b_Ref_known 432 = .ok (.iload_n 1, 1) := by decide +kernel
theorem d_Ref_known_433 : decode b_Ref_known 433 = .ok (.dup2, 1) := by decide +kernel
theorem d_Ref_known_434 : decode b_Ref_known 434 = .ok (.iaload, 1) := by decide +kernel
theorem d_Ref_known_435 : decode b_Ref_known 435 = .ok (.iconst 1, 1) := by decide +kernel
theorem d_Ref_known_436 : decode b_Ref_known 436 = .ok (.iadd, 1) := by decide +kernel
theorem d_Ref_known_437 : decode b_Ref_known 437 = .ok (.iastore, 1) := by decide +kernel
theorem d_Ref_known_438 : decode b_Ref_known 438 = .ok (.aload_n 0, 1) := by decide +kernel
theorem d_Ref_known_439 : decode b_Ref_known 439 = .ok (.iload_n 1, 1) := by decide +kernel
theorem d_Ref_known_440 : decode b_Ref_known 440 = .ok (.iload 5, 2) := by decide +kernel
theorem d_Ref_known_442 : decode b_Ref_known 442 = .ok (.iload_n 3, 1) := by decide +kernel
theorem d_Ref_known_443 : decode b_Ref_known 443 = .ok (.iload 10, 2) := by decide +kernel
theorem d_Ref_known_445 : decode b_Ref_known 445 = .ok (.iconst 0, 1) := by decide +kernel
theorem d_Ref_known_446 : decode b_Ref_known 446 = .ok (.invokevirtual 227, 3) := by decide +kernel
theorem d_Ref_known_449 : decode b_Ref_known 449 = .ok (.iconst 1, 1) := by decide +kernel
theorem d_Ref_known_450 : decode b_Ref_known 450 = .ok (.ireturn, 1) := by decide +kernel
theorem d_Ref_learn_0 : decode b_Ref_learn 0 = .ok (.iconst 0, 1) := by decide +kernel
theorem d_Ref_learn_1 : decode b_Ref_learn 1 = .ok (.istore_n 3, 1) := by decide +kernel
theorem d_Ref_learn_2 : decode b_Ref_learn 2 = .ok (.iload_n 3, 1) := by decide +kernel
theorem d_Ref_learn_3 : decode b_Ref_learn 3 = .ok (.iconst 4, 1) := by decide +kernel
theorem d_Ref_learn_4 : decode b_Ref_learn 4 = .ok (.if_icmp .ge 73, 3) := by decide +kernel
theorem d_Ref_learn_7 : decode b_Ref_learn 7 = .ok (.aload_n 0, 1) := by decide +kernel
theorem d_Ref_learn_8 : decode b_Ref_learn 8 = .ok (.getfield 53, 3) := by decide +kernel
theorem d_Ref_learn_11 : decode b_Ref_learn 11 = .ok (.sipush 139, 3) := by decide +kernel
theorem d_Ref_learn_14 : decode b_Ref_learn 14 = .ok (.iconst 4, 1) := by decide +kernel
theorem d_Ref_learn_15 : decode b_Ref_learn 15 = .ok (.iload_n 1, 1) := by decide +kernel
theorem d_Ref_learn_16 : decode b_Ref_learn 16 = .ok (.imul, 1) := by decide +kernel
theorem d_Ref_learn_17 : decode b_Ref_learn 17 = .ok (.iadd, 1) := by decide +kernel
theorem d_Ref_learn_18 : decode b_Ref_learn 18 = .ok (.iload_n 3, 1) := by decide +kernel
theorem d_Ref_learn_19 : decode b_Ref_learn 19 = .ok (.iadd, 1) := by decide +kernel
theorem d_Ref_learn_20 : decode b_Ref_learn 20 = .ok (.iaload, 1) := by decide +kernel
theorem d_Ref_learn_21 : decode b_Ref_learn 21 = .ok (.istore 4, 2) := by decide +kernel
theorem d_Ref_learn_23 : decode b_Ref_learn 23 = .ok (.aload_n 0, 1) := by decide +kernel
theorem d_Ref_learn_24 : decode b_Ref_learn 24 = .ok (.getfield 53, 3) := by decide +kernel
theorem d_Ref_learn_27 : decode b_Ref_learn 27 = .ok (.bipush 95, 2) := by decide +kernel
theorem d_Ref_learn_29 : decode b_Ref_learn 29 = .ok (.iconst 4, 1) := by decide +kernel
theorem d_Ref_learn_30 : decode b_Ref_learn 30 = .ok (.iload_n 2, 1) := by decide +kernel
theorem d_Ref_learn_31 : decode b_Ref_learn 31 = .ok (.imul, 1) := by decide +kernel
theorem d_Ref_learn_32 : decode b_Ref_learn 32 = .ok (.iadd, 1) := by decide +kernel
theorem d_Ref_learn_33 : decode b_Ref_learn 33 = .ok (.iload_n 3, 1) := by decide +kernel
theorem d_Ref_learn_34 : decode b_Ref_learn 34 = .ok (.iadd, 1) := by decide +kernel
theorem d_Ref_learn_35 : decode b_Ref_learn 35 = .ok (.iaload, 1) := by decide +kernel
theorem d_Ref_learn_36 : decode b_Ref_learn 36 = .ok (.istore 5, 2) := by decide +kernel
theorem d_Ref_learn_38 : decode b_Ref_learn 38 = .ok (.aload_n 0, 1) := by decide +kernel
theorem d_Ref_learn_39 : decode b_Ref_learn 39 = .ok (.iload_n 3, 1) := by decide +kernel
theorem d_Ref_learn_40 : decode b_Ref_learn 40 = .ok (.iload 5, 2) := by decide +kernel
theorem d_Ref_learn_42 : decode b_Ref_learn 42 = .ok (.invokevirtual 163, 3) := by decide +kernel
theorem d_Ref_learn_45 : decode b_Ref_learn 45 = .ok (.aload_n 0, 1) := by decide +kernel
theorem d_Ref_learn_46 : decode b_Ref_learn 46 = .ok (.iload_n 3, 1) := by decide +kernel
theorem d_Ref_learn_47 : decode b_Ref_learn 47 = .ok (.iload 4, 2) := by decide +kernel
theorem d_Ref_learn_49 : decode b_Ref_learn 49 = .ok (.invokevirtual 163, 3) := by decide +kernel
theorem d_Ref_learn_52 : decode b_Ref_learn 52 = .ok (.if_icmp .le 19, 3) := by decide +kernel
theorem d_Ref_learn_55 : decode b_Ref_learn 55 = .ok (.aload_n 0, 1) := by decide +kernel
theorem d_Ref_learn_56 : decode b_Ref_learn 56 = .ok (.getfield 53, 3) := by decide +kernel
theorem d_Ref_learn_59 : decode b_Ref_learn 59 = .ok (.sipush 139, 3) := by decide +kernel
theorem d_Ref_learn_62 : decode b_Ref_learn 62 = .ok (.iconst 4, 1) := by decide +kernel
theorem d_Ref_learn_63 : decode b_Ref_learn 63 = .ok (.iload_n 1, 1) := by decide +kernel
theorem d_Ref_learn_64 : decode b_Ref_learn 64 = .ok (.imul, 1) := by decide +kernel
theorem d_Ref_learn_65 : decode b_Ref_learn 65 = .ok (.iadd, 1) := by decide +kernel
theorem d_Ref_learn_66 : decode b_Ref_learn 66 = .ok (.iload_n 3, 1) := by decide +kernel
theorem d_Ref_learn_67 : decode b_Ref_learn 67 = .ok (.iadd, 1) := by decide +kernel
theorem d_Ref_learn_68 : decode b_Ref_learn 68 = .ok (.iload 5, 2) := by decide +kernel
theorem d_Ref_learn_70 : decode b_Ref_learn 70 = .ok (.iastore, 1) := by decide +kernel
theorem d_Ref_learn_71 : decode b_Ref_learn 71 = .ok (.iinc 3 1, 3) := by decide +kernel
theorem d_Ref_learn_74 : decode b_Ref_learn 74 = .ok (.goto (-72), 3) := by decide +kernel
theorem d_Ref_learn_77 : decode b_Ref_learn 77 = .ok (.return_, 1) := by decide +kernel
theorem d_Ref_put_0 : decode b_Ref_put 0 = .ok (.aload_n 0, 1) := by decide +kernel
theorem d_Ref_put_1 : decode b_Ref_put 1 = .ok (.getfield 53, 3) := by decide +kernel
theorem d_Ref_put_4 : decode b_Ref_put 4 = .ok (.bipush 15, 2) := by decide +kernel
theorem d_Ref_put_6 : decode b_Ref_put 6 = .ok (.iaload, 1) := by decide +kernel
theorem d_Ref_put_7 : decode b_Ref_put 7 = .ok (.istore 6, 2) := by decide +kernel
theorem d_Ref_put_9 : decode b_Ref_put 9 = .ok (.aload_n 0, 1) := by decide +kernel
theorem d_Ref_put_10 : decode b_Ref_put 10 = .ok (.getfield 53, 3) := by decide +kernel
theorem d_Ref_put_13 : decode b_Ref_put 13 = .ok (.bipush 15, 2) := by decide +kernel
theorem d_Ref_put_15 : decode b_Ref_put 15 = .ok (.dup2, 1) := by decide +kernel
theorem d_Ref_put_16 : decode b_Ref_put 16 = .ok (.iaload, 1) := by decide +kernel
theorem d_Ref_put_17 : decode b_Ref_put 17 = .ok (.iconst 1, 1) := by decide +kernel
theorem d_Ref_put_18 : decode b_Ref_put 18 = .ok (.iadd, 1) := by decide +kernel
theorem d_Ref_put_19 : decode b_Ref_put 19 = .ok (.iastore, 1) := by decide +kernel
theorem d_Ref_put_20 : decode b_Ref_put 20 = .ok (.aload_n 0, 1) := by decide +kernel
theorem d_Ref_put_21 : decode b_Ref_put 21 = .ok (.getfield 53, 3) := by decide +kernel
theorem d_Ref_put_24 : decode b_Ref_put 24 = .ok (.bipush 37, 2) := by decide +kernel
theorem d_Ref_put_26 : decode b_Ref_put 26 = .ok (.iload_n 2, 1) := by decide +kernel
theorem d_Ref_put_27 : decode b_Ref_put 27 = .ok (.iadd, 1) := by decide +kernel
theorem d_Ref_put_28 : decode b_Ref_put 28 = .ok (.iaload, 1) := by decide +kernel
theorem d_Ref_put_29 : decode b_Ref_put 29 = .ok (.istore 7, 2) := by decide +kernel
theorem d_Ref_put_31 : decode b_Ref_put 31 = .ok (.iload 7, 2) := by decide +kernel
theorem d_Ref_put_33 : decode b_Ref_put 33 = .ok (.iload_n 3, 1) := by decide +kernel
theorem d_Ref_put_34 : decode b_Ref_put 34 = .ok (.if_icmp .le 41, 3) := by decide +kernel
theorem d_Ref_put_37 : decode b_Ref_put 37 = .ok (.aload_n 0, 1) := by decide +kernel
theorem d_Ref_put_38 : decode b_Ref_put 38 = .ok (.getfield 53, 3) := by decide +kernel
theorem d_Ref_put_41 : decode b_Ref_put 41 = .ok (.bipush 41, 2) := by decide +kernel
theorem d_Ref_put_43 : decode b_Ref_put 43 = .ok (.bipush 8, 2) := by decide +kernel
theorem d_Ref_put_45 : decode b_Ref_put 45 = .ok (.iload_n 2, 1) := by decide +kernel
theorem d_Ref_put_46 : decode b_Ref_put 46 = .ok (.imul, 1) := by decide +kernel
theorem d_Ref_put_47 : decode b_Ref_put 47 = .ok (.iadd, 1) := by decide +kernel
theorem d_Ref_put_48 : decode b_Ref_put 48 = .ok (.iload 7, 2) := by decide +kernel
theorem d_Ref_put_50 : decode b_Ref_put 50 = .ok (.iadd, 1) := by decide +kernel
theorem d_Ref_put_51 : decode b_Ref_put 51 = .ok (.aload_n 0, 1) := by decide +kernel
theorem d_Ref_put_52 : decode b_Ref_put 52 = .ok (.getfield 53, 3) := by decide +kernel
theorem d_Ref_put_55 : decode b_Ref_put 55 = .ok (.bipush 41, 2) := by decide +kernel
theorem d_Ref_put_57 : decode b_Ref_put 57 = .ok (.bipush 8, 2) := by decide +kernel
theorem d_Ref_put_59 : decode b_Ref_put 59 = .ok (.iload_n 2, 1) := by decide +kernel
theorem d_Ref_put_60 : decode b_Ref_put 60 = .ok (.imul, 1) := by decide +kernel
theorem d_Ref_put_61 : decode b_Ref_put 61 = .ok (.iadd, 1) := by decide +kernel
theorem d_Ref_put_62 : decode b_Ref_put 62 = .ok (.iload 7, 2) := by decide +kernel
theorem d_Ref_put_64 : decode b_Ref_put 64 = .ok (.iadd, 1) := by decide +kernel
theorem d_Ref_put_65 : decode b_Ref_put 65 = .ok (.iconst 1, 1) := by decide +kernel
theorem d_Ref_put_66 : decode b_Ref_put 66 = .ok (.isub, 1) := by decide +kernel
theorem d_Ref_put_67 : decode b_Ref_put 67 = .ok (.iaload, 1) := by decide +kernel
theorem d_Ref_put_68 : decode b_Ref_put 68 = .ok (.iastore, 1) := by decide +kernel
theorem d_Ref_put_69 : decode b_Ref_put 69 = .ok (.iinc 7 (-1), 3) := by decide +kernel
theorem d_Ref_put_72 : decode b_Ref_put 72 = .ok (.goto (-41), 3) := by decide +kernel
theorem d_Ref_put_75 : decode b_Ref_put 75 = .ok (.aload_n 0, 1) := by decide +kernel
theorem d_Ref_put_76 : decode b_Ref_put 76 = .ok (.getfield 53, 3) := by decide +kernel
theorem d_Ref_put_79 : decode b_Ref_put 79 = .ok (.bipush 41, 2) := by decide +kernel
theorem d_Ref_put_81 : decode b_Ref_put 81 = .ok (.bipush 8, 2) := by decide +kernel
theorem d_Ref_put_83 : decode b_Ref_put 83 = .ok (.iload_n 2, 1) := by decide +kernel
theorem d_Ref_put_84 : decode b_Ref_put 84 = .ok (.imul, 1) := by decide +kernel
theorem d_Ref_put_85 : decode b_Ref_put 85 = .ok (.iadd, 1) := by decide +kernel
theorem d_Ref_put_86 : decode b_Ref_put 86 = .ok (.iload_n 3, 1) := by decide +kernel
theorem d_Ref_put_87 : decode b_Ref_put 87 = .ok (.iadd, 1) := by decide +kernel
theorem d_Ref_put_88 : decode b_Ref_put 88 = .ok (.iload 6, 2) := by decide +kernel
theorem d_Ref_put_90 : decode b_Ref_put 90 = .ok (.iastore, 1) := by decide +kernel
theorem d_Ref_put_91 : decode b_Ref_put 91 = .ok (.aload_n 0, 1) := by decide +kernel
theorem d_Ref_put_92 : decode b_Ref_put 92 = .ok (.getfield 53, 3) := by decide +kernel
theorem d_Ref_put_95 : decode b_Ref_put 95 = .ok (.bipush 37, 2) := by decide +kernel
theorem d_Ref_put_97 : decode b_Ref_put 97 = .ok (.iload_n 2, 1) := by decide +kernel
theorem d_Ref_put_98 : decode b_Ref_put 98 = .ok (.iadd, 1) := by decide +kernel
theorem d_Ref_put_99 : decode b_Ref_put 99 = .ok (.dup2, 1) := by decide +kernel
theorem d_Ref_put_100 : decode b_Ref_put 100 = .ok (.iaload, 1) := by decide +kernel
theorem d_Ref_put_101 : decode b_Ref_put 101 = .ok (.iconst 1, 1) := by decide +kernel
theorem d_Ref_put_102 : decode b_Ref_put 102 = .ok (.iadd, 1) := by decide +kernel
theorem d_Ref_put_103 : decode b_Ref_put 103 = .ok (.iastore, 1) := by decide +kernel
theorem d_Ref_put_104 : decode b_Ref_put 104 = .ok (.aload_n 0, 1) := by decide +kernel
theorem d_Ref_put_105 : decode b_Ref_put 105 = .ok (.getfield 53, 3) := by decide +kernel
theorem d_Ref_put_108 : decode b_Ref_put 108 = .ok (.bipush 73, 2) := by decide +kernel
theorem d_Ref_put_110 : decode b_Ref_put 110 = .ok (.iload 6, 2) := by decide +kernel
theorem d_Ref_put_112 : decode b_Ref_put 112 = .ok (.iadd, 1) := by decide +kernel
theorem d_Ref_put_113 : decode b_Ref_put 113 = .ok (.iload 4, 2) := by decide +kernel
theorem d_Ref_put_115 : decode b_Ref_put 115 = .ok (.iastore, 1) := by decide +kernel
theorem d_Ref_put_116 : decode b_Ref_put 116 = .ok (.aload_n 0, 1) := by decide +kernel
theorem d_Ref_put_117 : decode b_Ref_put 117 = .ok (.getfield 53, 3) := by decide +kernel
theorem d_Ref_put_120 : decode b_Ref_put 120 = .ok (.bipush 84, 2) := by decide +kernel
theorem d_Ref_put_122 : decode b_Ref_put 122 = .ok (.iload 6, 2) := by decide +kernel
theorem d_Ref_put_124 : decode b_Ref_put 124 = .ok (.iadd, 1) := by decide +kernel
theorem d_Ref_put_125 : decode b_Ref_put 125 = .ok (.iload 5, 2) := by decide +kernel
theorem d_Ref_put_127 : decode b_Ref_put 127 = .ok (.iastore, 1) := by decide +kernel
theorem d_Ref_put_128 : decode b_Ref_put 128 = .ok (.aload_n 0, 1) := by decide +kernel
theorem d_Ref_put_129 : decode b_Ref_put 129 = .ok (.getfield 53, 3) := by decide +kernel
theorem d_Ref_put_132 : decode b_Ref_put 132 = .ok (.sipush 139, 3) := by decide +kernel
theorem d_Ref_put_135 : decode b_Ref_put 135 = .ok (.iconst 4, 1) := by decide +kernel
theorem d_Ref_put_136 : decode b_Ref_put 136 = .ok (.iload_n 1, 1) := by decide +kernel
theorem d_Ref_put_137 : decode b_Ref_put 137 = .ok (.imul, 1) := by decide +kernel
theorem d_Ref_put_138 : decode b_Ref_put 138 = .ok (.iadd, 1) := by decide +kernel
theorem d_Ref_put_139 : decode b_Ref_put 139 = .ok (.iload_n 2, 1) := by decide +kernel
theorem d_Ref_put_140 : decode b_Ref_put 140 = .ok (.iadd, 1) := by decide +kernel
theorem d_Ref_put_141 : decode b_Ref_put 141 = .ok (.iload 6, 2) := by decide +kernel
theorem d_Ref_put_143 : decode b_Ref_put 143 = .ok (.iastore, 1) := by decide +kernel
theorem d_Ref_put_144 : decode b_Ref_put 144 = .ok (.iconst 0, 1) := by decide +kernel
theorem d_Ref_put_145 : decode b_Ref_put 145 = .ok (.istore 7, 2) := by decide +kernel
theorem d_Ref_put_147 : decode b_Ref_put 147 = .ok (.iload 7, 2) := by decide +kernel
theorem d_Ref_put_149 : decode b_Ref_put 149 = .ok (.iconst 4, 1) := by decide +kernel
theorem d_Ref_put_150 : decode b_Ref_put 150 = .ok (.if_icmp .ge 39, 3) := by decide +kernel
theorem d_Ref_put_153 : decode b_Ref_put 153 = .ok (.aload_n 0, 1) := by decide +kernel
theorem d_Ref_put_154 : decode b_Ref_put 154 = .ok (.getfield 53, 3) := by decide +kernel
theorem d_Ref_put_157 : decode b_Ref_put 157 = .ok (.bipush 95, 2) := by decide +kernel
theorem d_Ref_put_159 : decode b_Ref_put 159 = .ok (.iconst 4, 1) := by decide +kernel
theorem d_Ref_put_160 : decode b_Ref_put 160 = .ok (.iload 6, 2) := by decide +kernel
theorem d_Ref_put_162 : decode b_Ref_put 162 = .ok (.imul, 1) := by decide +kernel
theorem d_Ref_put_163 : decode b_Ref_put 163 = .ok (.iadd, 1) := by decide +kernel
theorem d_Ref_put_164 : decode b_Ref_put 164 = .ok (.iload 7, 2) := by decide +kernel
theorem d_Ref_put_166 : decode b_Ref_put 166 = .ok (.iadd, 1) := by decide +kernel
theorem d_Ref_put_167 : decode b_Ref_put 167 = .ok (.aload_n 0, 1) := by decide +kernel
theorem d_Ref_put_168 : decode b_Ref_put 168 = .ok (.getfield 53, 3) := by decide +kernel
theorem d_Ref_put_171 : decode b_Ref_put 171 = .ok (.sipush 139, 3) := by decide +kernel
theorem d_Ref_put_174 : decode b_Ref_put 174 = .ok (.iconst 4, 1) := by decide +kernel
theorem d_Ref_put_175 : decode b_Ref_put 175 = .ok (.iload_n 1, 1) := by decide +kernel
theorem d_Ref_put_176 : decode b_Ref_put 176 = .ok (.imul, 1) := by decide +kernel
theorem d_Ref_put_177 : decode b_Ref_put 177 = .ok (.iadd, 1) := by decide +kernel
theorem d_Ref_put_178 : decode b_Ref_put 178 = .ok (.iload 7, 2) := by decide +kernel
theorem d_Ref_put_180 : decode b_Ref_put 180 = .ok (.iadd, 1) := by decide +kernel
theorem d_Ref_put_181 : decode b_Ref_put 181 = .ok (.iaload, 1) := by decide +kernel
theorem d_Ref_put_182 : decode b_Ref_put 182 = .ok (.iastore, 1) := by decide +kernel
theorem d_Ref_put_183 : decode b_Ref_put 183 = .ok (.iinc 7 1, 3) := by decide +kernel
theorem d_Ref_put_186 : decode b_Ref_put 186 = .ok (.goto (-39), 3) := by decide +kernel
theorem d_Ref_put_189 : decode b_Ref_put 189 = .ok (.return_, 1) := by decide +kernel
theorem d_Ref_ends_0 : decode b_Ref_ends 0 = .ok (.iconst 0, 1) := by decide +kernel
theorem d_Ref_ends_1 : decode b_Ref_ends 1 = .ok (.istore_n 2, 1) := by decide +kernel
theorem d_Ref_ends_2 : decode b_Ref_ends 2 = .ok (.iload_n 2, 1) := by decide +kernel
theorem d_Ref_ends_3 : decode b_Ref_ends 3 = .ok (.bipush 8, 2) := by decide +kernel
theorem d_Ref_ends_5 : decode b_Ref_ends 5 = .ok (.if_icmp .ge 23, 3) := by decide +kernel
theorem d_Ref_ends_8 : decode b_Ref_ends 8 = .ok (.aload_n 0, 1) := by decide +kernel
theorem d_Ref_ends_9 : decode b_Ref_ends 9 = .ok (.getfield 78, 3) := by decide +kernel
theorem d_Ref_ends_12 : decode b_Ref_ends 12 = .ok (.iload_n 2, 1) := by decide +kernel
theorem d_Ref_ends_13 : decode b_Ref_ends 13 = .ok (.aload_n 0, 1) := by decide +kernel
theorem d_Ref_ends_14 : decode b_Ref_ends 14 = .ok (.getfield 53, 3) := by decide +kernel
theorem d_Ref_ends_17 : decode b_Ref_ends 17 = .ok (.iconst 4, 1) := by decide +kernel
theorem d_Ref_ends_18 : decode b_Ref_ends 18 = .ok (.iload_n 2, 1) := by decide +kernel
theorem d_Ref_ends_19 : decode b_Ref_ends 19 = .ok (.iadd, 1) := by decide +kernel
theorem d_Ref_ends_20 : decode b_Ref_ends 20 = .ok (.iaload, 1) := by decide +kernel
theorem d_Ref_ends_21 : decode b_Ref_ends 21 = .ok (.iastore, 1) := by decide +kernel
theorem d_Ref_ends_22 : decode b_Ref_ends 22 = .ok (.iinc 2 1, 3) := by decide +kernel
theorem d_Ref_ends_25 : decode b_Ref_ends 25 = .ok (.goto (-23), 3) := by decide +kernel
theorem d_Ref_ends_28 : decode b_Ref_ends 28 = .ok (.iconst 0, 1) := by decide +kernel
theorem d_Ref_ends_29 : decode b_Ref_ends 29 = .ok (.istore_n 2, 1) := by decide +kernel
theorem d_Ref_ends_30 : decode b_Ref_ends 30 = .ok (.iload_n 2, 1) := by decide +kernel
theorem d_Ref_ends_31 : decode b_Ref_ends 31 = .ok (.iconst 3, 1) := by decide +kernel
theorem d_Ref_ends_32 : decode b_Ref_ends 32 = .ok (.if_icmp .ge 70, 3) := by decide +kernel
theorem d_Ref_ends_35 : decode b_Ref_ends 35 = .ok (.aload_n 0, 1) := by decide +kernel
theorem d_Ref_ends_36 : decode b_Ref_ends 36 = .ok (.getfield 78, 3) := by decide +kernel
theorem d_Ref_ends_39 : decode b_Ref_ends 39 = .ok (.bipush 8, 2) := by decide +kernel
theorem d_Ref_ends_41 : decode b_Ref_ends 41 = .ok (.iload_n 2, 1) := by decide +kernel
theorem d_Ref_ends_42 : decode b_Ref_ends 42 = .ok (.iadd, 1) := by decide +kernel
theorem d_Ref_ends_43 : decode b_Ref_ends 43 = .ok (.aload_n 0, 1) := by decide +kernel
theorem d_Ref_ends_44 : decode b_Ref_ends 44 = .ok (.getfield 143, 3) := by decide +kernel
theorem d_Ref_ends_47 : decode b_Ref_ends 47 = .ok (.iconst 3, 1) := by decide +kernel
theorem d_Ref_ends_48 : decode b_Ref_ends 48 = .ok (.if_icmp .ge 15, 3) := by decide +kernel
theorem d_Ref_ends_51 : decode b_Ref_ends 51 = .ok (.aload_n 0, 1) := by decide +kernel
theorem d_Ref_ends_52 : decode b_Ref_ends 52 = .ok (.getfield 53, 3) := by decide +kernel
theorem d_Ref_ends_55 : decode b_Ref_ends 55 = .ok (.bipush 12, 2) := by decide +kernel
theorem d_Ref_ends_57 : decode b_Ref_ends 57 = .ok (.iload_n 2, 1) := by decide +kernel
theorem d_Ref_ends_58 : decode b_Ref_ends 58 = .ok (.iadd, 1) := by decide +kernel
theorem d_Ref_ends_59 : decode b_Ref_ends 59 = .ok (.iaload, 1) := by decide +kernel
theorem d_Ref_ends_60 : decode b_Ref_ends 60 = .ok (.goto 35, 3) := by decide +kernel
theorem d_Ref_ends_63 : decode b_Ref_ends 63 = .ok (.aload_n 0, 1) := by decide +kernel
theorem d_Ref_ends_64 : decode b_Ref_ends 64 = .ok (.getfield 53, 3) := by decide +kernel
theorem d_Ref_ends_67 : decode b_Ref_ends 67 = .ok (.bipush 73, 2) := by decide +kernel
theorem d_Ref_ends_69 : decode b_Ref_ends 69 = .ok (.aload_n 0, 1) := by decide +kernel
theorem d_Ref_ends_70 : decode b_Ref_ends 70 = .ok (.getfield 53, 3) := by decide +kernel
theorem d_Ref_ends_73 : decode b_Ref_ends 73 = .ok (.bipush 41, 2) := by decide +kernel
theorem d_Ref_ends_75 : decode b_Ref_ends 75 = .ok (.bipush 8, 2) := by decide +kernel
theorem d_Ref_ends_77 : decode b_Ref_ends 77 = .ok (.iload_n 2, 1) := by decide +kernel
theorem d_Ref_ends_78 : decode b_Ref_ends 78 = .ok (.imul, 1) := by decide +kernel
theorem d_Ref_ends_79 : decode b_Ref_ends 79 = .ok (.iadd, 1) := by decide +kernel
theorem d_Ref_ends_80 : decode b_Ref_ends 80 = .ok (.aload_n 0, 1) := by decide +kernel
theorem d_Ref_ends_81 : decode b_Ref_ends 81 = .ok (.getfield 53, 3) := by decide +kernel
theorem d_Ref_ends_84 : decode b_Ref_ends 84 = .ok (.bipush 37, 2) := by decide +kernel
theorem d_Ref_ends_86 : decode b_Ref_ends 86 = .ok (.iload_n 2, 1) := by decide +kernel
theorem d_Ref_ends_87 : decode b_Ref_ends 87 = .ok (.iadd, 1) := by decide +kernel
theorem d_Ref_ends_88 : decode b_Ref_ends 88 = .ok (.iaload, 1) := by decide +kernel
theorem d_Ref_ends_89 : decode b_Ref_ends 89 = .ok (.iadd, 1) := by decide +kernel
theorem d_Ref_ends_90 : decode b_Ref_ends 90 = .ok (.iconst 1, 1) := by decide +kernel
theorem d_Ref_ends_91 : decode b_Ref_ends 91 = .ok (.isub, 1) := by decide +kernel
theorem d_Ref_ends_92 : decode b_Ref_ends 92 = .ok (.iaload, 1) := by decide +kernel
theorem d_Ref_ends_93 : decode b_Ref_ends 93 = .ok (.iadd, 1) := by decide +kernel
theorem d_Ref_ends_94 : decode b_Ref_ends 94 = .ok (.iaload, 1) := by decide +kernel
theorem d_Ref_ends_95 : decode b_Ref_ends 95 = .ok (.iastore, 1) := by decide +kernel
theorem d_Ref_ends_96 : decode b_Ref_ends 96 = .ok (.iinc 2 1, 3) := by decide +kernel
theorem d_Ref_ends_99 : decode b_Ref_ends 99 = .ok (.goto (-69), 3) := by decide +kernel
theorem d_Ref_ends_102 : decode b_Ref_ends 102 = .ok (.aload_n 0, 1) := by decide +kernel
theorem d_Ref_ends_103 : decode b_Ref_ends 103 = .ok (.aload_n 0, 1) := by decide +kernel
theorem d_Ref_ends_104 : decode b_Ref_ends 104 = .ok (.getfield 143, 3) := by decide +kernel
theorem d_Ref_ends_107 : decode b_Ref_ends 107 = .ok (.invokevirtual 231, 3) := by decide +kernel
theorem d_Ref_ends_110 : decode b_Ref_ends 110 = .ok (.istore_n 2, 1) := by decide +kernel
theorem d_Ref_ends_111 : decode b_Ref_ends 111 = .ok (.iload_n 2, 1) := by decide +kernel
theorem d_Ref_ends_112 : decode b_Ref_ends 112 = .ok (.ifCond .lt 56, 3) := by decide +kernel
theorem d_Ref_ends_115 : decode b_Ref_ends 115 = .ok (.sipush 4000, 3) := by decide +kernel
theorem d_Ref_ends_118 : decode b_Ref_ends 118 = .ok (.aload_n 0, 1) := by decide +kernel
theorem d_Ref_ends_119 : decode b_Ref_ends 119 = .ok (.getfield 143, 3) := by decide +kernel
theorem d_Ref_ends_122 : decode b_Ref_ends 122 = .ok (.imul, 1) := by decide +kernel
theorem d_Ref_ends_123 : decode b_Ref_ends 123 = .ok (.iload_n 2, 1) := by decide +kernel
theorem d_Ref_ends_124 : decode b_Ref_ends 124 = .ok (.iadd, 1) := by decide +kernel
theorem d_Ref_ends_125 : decode b_Ref_ends 125 = .ok (.istore_n 3, 1) := by decide +kernel
theorem d_Ref_ends_126 : decode b_Ref_ends 126 = .ok (.aload_n 0, 1) := by decide +kernel
theorem d_Ref_ends_127 : decode b_Ref_ends 127 = .ok (.getfield 41, 3) := by decide +kernel
theorem d_Ref_ends_130 : decode b_Ref_ends 130 = .ok (.iload_n 3, 1) := by decide +kernel
theorem d_Ref_ends_131 : decode b_Ref_ends 131 = .ok (.iload_n 1, 1) := by decide +kernel
theorem d_Ref_ends_132 : decode b_Ref_ends 132 = .ok (.iastore, 1) := by decide +kernel
theorem d_Ref_ends_133 : decode b_Ref_ends 133 = .ok (.iconst 0, 1) := by decide +kernel
theorem d_Ref_ends_134 : decode b_Ref_ends 134 = .ok (.istore 4, 2) := by decide +kernel
theorem d_Ref_ends_136 : decode b_Ref_ends 136 = .ok (.iload 4, 2) := by decide +kernel
theorem d_Ref_ends_138 : decode b_Ref_ends 138 = .ok (.iload_n 1, 1) := by decide +kernel
theorem d_Ref_ends_139 : decode b_Ref_ends 139 = .ok (.if_icmp .ge 29, 3) := by decide +kernel
theorem d_Ref_ends_142 : decode b_Ref_ends 142 = .ok (.aload_n 0, 1) := by decide +kernel
theorem d_Ref_ends_143 : decode b_Ref_ends 143 = .ok (.getfield 38, 3) := by decide +kernel
theorem d_Ref_ends_146 : decode b_Ref_ends 146 = .ok (.bipush 16, 2) := by decide +kernel
theorem d_Ref_ends_148 : decode b_Ref_ends 148 = .ok (.iload_n 3, 1) := by decide +kernel
theorem d_Ref_ends_149 : decode b_Ref_ends 149 = .ok (.imul, 1) := by decide +kernel
theorem d_Ref_ends_150 : decode b_Ref_ends 150 = .ok (.iload 4, 2) := by decide +kernel
theorem d_Ref_ends_152 : decode b_Ref_ends 152 = .ok (.iadd, 1) := by decide +kernel
theorem d_Ref_ends_153 : decode b_Ref_ends 153 = .ok (.aload_n 0, 1) := by decide +kernel
theorem d_Ref_ends_154 : decode b_Ref_ends 154 = .ok (.getfield 59, 3) := by decide +kernel
theorem d_Ref_ends_157 : decode b_Ref_ends 157 = .ok (.iload 4, 2) := by decide +kernel
theorem d_Ref_ends_159 : decode b_Ref_ends 159 = .ok (.iaload, 1) := by decide +kernel
theorem d_Ref_ends_160 : decode b_Ref_ends 160 = .ok (.i2s, 1) := by decide +kernel
theorem d_Ref_ends_161 : decode b_Ref_ends 161 = .ok (.sastore, 1) := by decide +kernel
theorem d_Ref_ends_162 : decode b_Ref_ends 162 = .ok (.iinc 4 1, 3) := by decide +kernel
theorem d_Ref_ends_165 : decode b_Ref_ends 165 = .ok (.goto (-29), 3) := by decide +kernel
theorem d_Ref_ends_168 : decode b_Ref_ends 168 = .ok (.return_, 1) := by decide +kernel
theorem d_Ref_against_0 : decode b_Ref_against 0 = .ok (.iconst 0, 1) := by decide +kernel
theorem d_Ref_against_1 : decode b_Ref_against 1 = .ok (.istore_n 3, 1) := by decide +kernel
theorem d_Ref_against_2 : decode b_Ref_against 2 = .ok (.iload_n 3, 1) := by decide +kernel
theorem d_Ref_against_3 : decode b_Ref_against 3 = .ok (.bipush 11, 2) := by decide +kernel
theorem d_Ref_against_5 : decode b_Ref_against 5 = .ok (.if_icmp .ge 43, 3) := by decide +kernel
theorem d_Ref_against_8 : decode b_Ref_against 8 = .ok (.aload_n 0, 1) := by decide +kernel
theorem d_Ref_against_9 : decode b_Ref_against 9 = .ok (.getfield 78, 3) := by decide +kernel
theorem d_Ref_against_12 : decode b_Ref_against 12 = .ok (.iload_n 3, 1) := by decide +kernel
theorem d_Ref_against_13 : decode b_Ref_against 13 = .ok (.iaload, 1) := by decide +kernel
theorem d_Ref_against_14 : decode b_Ref_against 14 = .ok (.aload_n 0, 1) := by decide +kernel
theorem d_Ref_against_15 : decode b_Ref_against 15 = .ok (.getfield 33, 3) := by decide +kernel
theorem d_Ref_against_18 : decode b_Ref_against 18 = .ok (.bipush 11, 2) := by decide +kernel
theorem d_Ref_against_20 : decode b_Ref_against 20 = .ok (.sipush 4000, 3) := by decide +kernel
theorem d_Ref_against_23 : decode b_Ref_against 23 = .ok (.iload_n 1, 1) := by decide +kernel
theorem d_Ref_against_24 : decode b_Ref_against 24 = .ok (.imul, 1) := by decide +kernel
theorem d_Ref_against_25 : decode b_Ref_against 25 = .ok (.iload_n 2, 1) := by decide +kernel
theorem d_Ref_against_26 : decode b_Ref_against 26 = .ok (.iadd, 1) := by decide +kernel
theorem d_Ref_against_27 : decode b_Ref_against 27 = .ok (.imul, 1) := by decide +kernel
theorem d_Ref_against_28 : decode b_Ref_against 28 = .ok (.iload_n 3, 1) := by decide +kernel
theorem d_Ref_against_29 : decode b_Ref_against 29 = .ok (.iadd, 1) := by decide +kernel
theorem d_Ref_against_30 : decode b_Ref_against 30 = .ok (.saload, 1) := by decide +kernel
theorem d_Ref_against_31 : decode b_Ref_against 31 = .ok (.isub, 1) := by decide +kernel
theorem d_Ref_against_32 : decode b_Ref_against 32 = .ok (.istore 4, 2) := by decide +kernel
theorem d_Ref_against_34 : decode b_Ref_against 34 = .ok (.iload 4, 2) := by decide +kernel
theorem d_Ref_against_36 : decode b_Ref_against 36 = .ok (.ifCond .eq 6, 3) := by decide +kernel
theorem d_Ref_against_39 : decode b_Ref_against 39 = .ok (.iload 4, 2) := by decide +kernel
theorem d_Ref_against_41 : decode b_Ref_against 41 = .ok (.ireturn, 1) := by decide +kernel
theorem d_Ref_against_42 : decode b_Ref_against 42 = .ok (.iinc 3 1, 3) := by decide +kernel
theorem d_Ref_against_45 : decode b_Ref_against 45 = .ok (.goto (-43), 3) := by decide +kernel
theorem d_Ref_against_48 : decode b_Ref_against 48 = .ok (.iconst 0, 1) := by decide +kernel
theorem d_Ref_against_49 : decode b_Ref_against 49 = .ok (.ireturn, 1) := by decide +kernel
theorem d_Ref_addOutcome_0 : decode b_Ref_addOutcome 0 = .ok (.sipush 4000, 3) := by decide +kernel
theorem d_Ref_addOutcome_3 : decode b_Ref_addOutcome 3 = .ok (.iload_n 1, 1) := by decide +kernel
theorem d_Ref_addOutcome_4 : decode b_Ref_addOutcome 4 = .ok (.imul, 1) := by decide +kernel
theorem d_Ref_addOutcome_5 : decode b_Ref_addOutcome 5 = .ok (.istore_n 2, 1) := by decide +kernel
theorem d_Ref_addOutcome_6 : decode b_Ref_addOutcome 6 = .ok (.iconst 0, 1) := by decide +kernel
theorem d_Ref_addOutcome_7 : decode b_Ref_addOutcome 7 = .ok (.istore_n 3, 1) := by decide +kernel
theorem d_Ref_addOutcome_8 : decode b_Ref_addOutcome 8 = .ok (.aload_n 0, 1) := by decide +kernel
theorem d_Ref_addOutcome_9 : decode b_Ref_addOutcome 9 = .ok (.getfield 29, 3) := by decide +kernel
theorem d_Ref_addOutcome_12 : decode b_Ref_addOutcome 12 = .ok (.iload_n 1, 1) := by decide +kernel
theorem d_Ref_addOutcome_13 : decode b_Ref_addOutcome 13 = .ok (.iaload, 1) := by decide +kernel
theorem d_Ref_addOutcome_14 : decode b_Ref_addOutcome 14 = .ok (.istore 4, 2) := by decide +kernel
theorem d_Ref_addOutcome_16 : decode b_Ref_addOutcome 16 = .ok (.iload_n 3, 1) := by decide +kernel
theorem d_Ref_addOutcome_17 : decode b_Ref_addOutcome 17 = .ok (.iload 4, 2) := by decide +kernel
theorem d_Ref_addOutcome_19 : decode b_Ref_addOutcome 19 = .ok (.if_icmp .ge 43, 3) := by decide +kernel
theorem d_Ref_addOutcome_22 : decode b_Ref_addOutcome 22 = .ok (.iload_n 3, 1) := by decide +kernel
theorem d_Ref_addOutcome_23 : decode b_Ref_addOutcome 23 = .ok (.iload 4, 2) := by decide +kernel
theorem d_Ref_addOutcome_25 : decode b_Ref_addOutcome 25 = .ok (.iadd, 1) := by decide +kernel
theorem d_Ref_addOutcome_26 : decode b_Ref_addOutcome 26 = .ok (.iconst 2, 1) := by decide +kernel
theorem d_Ref_addOutcome_27 : decode b_Ref_addOutcome 27 = .ok (.idiv, 1) := by decide +kernel
theorem d_Ref_addOutcome_28 : decode b_Ref_addOutcome 28 = .ok (.istore 5, 2) := by decide +kernel
theorem d_Ref_addOutcome_30 : decode b_Ref_addOutcome 30 = .ok (.aload_n 0, 1) := by decide +kernel
theorem d_Ref_addOutcome_31 : decode b_Ref_addOutcome 31 = .ok (.iload_n 1, 1) := by decide +kernel
theorem d_Ref_addOutcome_32 : decode b_Ref_addOutcome 32 = .ok (.aload_n 0, 1) := by decide +kernel
theorem d_Ref_addOutcome_33 : decode b_Ref_addOutcome 33 = .ok (.getfield 44, 3) := by decide +kernel
theorem d_Ref_addOutcome_36 : decode b_Ref_addOutcome 36 = .ok (.iload_n 2, 1) := by decide +kernel
theorem d_Ref_addOutcome_37 : decode b_Ref_addOutcome 37 = .ok (.iload 5, 2) := by decide +kernel
theorem d_Ref_addOutcome_39 : decode b_Ref_addOutcome 39 = .ok (.iadd, 1) := by decide +kernel
theorem d_Ref_addOutcome_40 : decode b_Ref_addOutcome 40 = .ok (.iaload, 1) := by decide +kernel
theorem d_Ref_addOutcome_41 : decode b_Ref_addOutcome 41 = .ok (.invokevirtual 235, 3) := by decide +kernel
theorem d_Ref_addOutcome_44 : decode b_Ref_addOutcome 44 = .ok (.ifCond .le 11, 3) := by decide +kernel
theorem d_Ref_addOutcome_47 : decode b_Ref_addOutcome 47 = .ok (.iload 5, 2) := by decide +kernel
theorem d_Ref_addOutcome_49 : decode b_Ref_addOutcome 49 = .ok (.iconst 1, 1) := by decide +kernel
theorem d_Ref_addOutcome_50 : decode b_Ref_addOutcome 50 = .ok (.iadd, 1) := by decide +kernel
theorem d_Ref_addOutcome_51 : decode b_Ref_addOutcome 51 = .ok (.istore_n 3, 1) := by decide +kernel
theorem d_Ref_addOutcome_52 : decode b_Ref_addOutcome 52 = .ok (.goto 7, 3) := by decide +kernel
theorem d_Ref_addOutcome_55 : decode b_Ref_addOutcome 55 = .ok (.iload 5, 2) := by decide +kernel
theorem d_Ref_addOutcome_57 : decode b_Ref_addOutcome 57 = .ok (.istore 4, 2) := by decide +kernel
theorem d_Ref_addOutcome_59 : decode b_Ref_addOutcome 59 = .ok (.goto (-43), 3) := by decide +kernel
theorem d_Ref_addOutcome_62 : decode b_Ref_addOutcome 62 = .ok (.aload_n 0, 1) := by decide +kernel
theorem d_Ref_addOutcome_63 : decode b_Ref_addOutcome 63 = .ok (.getfield 29, 3) := by decide +kernel
theorem d_Ref_addOutcome_66 : decode b_Ref_addOutcome 66 = .ok (.iload_n 1, 1) := by decide +kernel
theorem d_Ref_addOutcome_67 : decode b_Ref_addOutcome 67 = .ok (.iaload, 1) := by decide +kernel
theorem d_Ref_addOutcome_68 : decode b_Ref_addOutcome 68 = .ok (.istore 5, 2) := by decide +kernel
theorem d_Ref_addOutcome_70 : decode b_Ref_addOutcome 70 = .ok (.iload_n 3, 1) := by decide +kernel
theorem d_Ref_addOutcome_71 : decode b_Ref_addOutcome 71 = .ok (.iload 5, 2) := by decide +kernel
theorem d_Ref_addOutcome_73 : decode b_Ref_addOutcome 73 = .ok (.if_icmp .ge 19, 3) := by decide +kernel
theorem d_Ref_addOutcome_76 : decode b_Ref_addOutcome 76 = .ok (.aload_n 0, 1) := by decide +kernel
theorem d_Ref_addOutcome_77 : decode b_Ref_addOutcome 77 = .ok (.iload_n 1, 1) := by decide +kernel
theorem d_Ref_addOutcome_78 : decode b_Ref_addOutcome 78 = .ok (.aload_n 0, 1) := by decide +kernel
theorem d_Ref_addOutcome_79 : decode b_Ref_addOutcome 79 = .ok (.getfield 44, 3) := by decide +kernel
theorem d_Ref_addOutcome_82 : decode b_Ref_addOutcome 82 = .ok (.iload_n 2, 1) := by decide +kernel
theorem d_Ref_addOutcome_83 : decode b_Ref_addOutcome 83 = .ok (.iload_n 3, 1) := by decide +kernel
theorem d_Ref_addOutcome_84 : decode b_Ref_addOutcome 84 = .ok (.iadd, 1) := by decide +kernel
theorem d_Ref_addOutcome_85 : decode b_Ref_addOutcome 85 = .ok (.iaload, 1) := by decide +kernel
theorem d_Ref_addOutcome_86 : decode b_Ref_addOutcome 86 = .ok (.invokevirtual 235, 3) := by decide +kernel
theorem d_Ref_addOutcome_89 : decode b_Ref_addOutcome 89 = .ok (.ifCond .eq 11, 3) := by decide +kernel
theorem d_Ref_addOutcome_92 : decode b_Ref_addOutcome 92 = .ok (.iload 5, 2) := by decide +kernel
theorem d_Ref_addOutcome_94 : decode b_Ref_addOutcome 94 = .ok (.sipush 4000, 3) := by decide +kernel
theorem d_Ref_addOutcome_97 : decode b_Ref_addOutcome 97 = .ok (.if_icmp .ne 5, 3) := by decide +kernel
theorem d_Ref_addOutcome_100 : decode b_Ref_addOutcome 100 = .ok (.iconst (-1), 1) := by decide +kernel
theorem d_Ref_addOutcome_101 : decode b_Ref_addOutcome 101 = .ok (.ireturn, 1) := by decide +kernel
theorem d_Ref_addOutcome_102 : decode b_Ref_addOutcome 102 = .ok (.iload 5, 2) := by decide +kernel
theorem d_Ref_addOutcome_104 : decode b_Ref_addOutcome 104 = .ok (.istore 6, 2) := by decide +kernel
theorem d_Ref_addOutcome_106 : decode b_Ref_addOutcome 106 = .ok (.iload 6, 2) := by decide +kernel
theorem d_Ref_addOutcome_108 : decode b_Ref_addOutcome 108 = .ok (.iload_n 3, 1) := by decide +kernel
theorem d_Ref_addOutcome_109 : decode b_Ref_addOutcome 109 = .ok (.if_icmp .le 29, 3) := by decide +kernel
theorem d_Ref_addOutcome_112 : decode b_Ref_addOutcome 112 = .ok (.aload_n 0, 1) := by decide +kernel
theorem d_Ref_addOutcome_113 : decode b_Ref_addOutcome 113 = .ok (.getfield 44, 3) := by decide +kernel
theorem d_Ref_addOutcome_116 : decode b_Ref_addOutcome 116 = .ok (.iload_n 2, 1) := by decide +kernel
theorem d_Ref_addOutcome_117 : decode b_Ref_addOutcome 117 = .ok (.iload 6, 2) := by decide +kernel
theorem d_Ref_addOutcome_119 : decode b_Ref_addOutcome 119 = .ok (.iadd, 1) := by decide +kernel
theorem d_Ref_addOutcome_120 : decode b_Ref_addOutcome 120 = .ok (.aload_n 0, 1) := by decide +kernel
theorem d_Ref_addOutcome_121 : decode b_Ref_addOutcome 121 = .ok (.getfield 44, 3) := by decide +kernel
theorem d_Ref_addOutcome_124 : decode b_Ref_addOutcome 124 = .ok (.iload_n 2, 1) := by decide +kernel
theorem d_Ref_addOutcome_125 : decode b_Ref_addOutcome 125 = .ok (.iload 6, 2) := by decide +kernel
theorem d_Ref_addOutcome_127 : decode b_Ref_addOutcome 127 = .ok (.iadd, 1) := by decide +kernel
theorem d_Ref_addOutcome_128 : decode b_Ref_addOutcome 128 = .ok (.iconst 1, 1) := by decide +kernel
theorem d_Ref_addOutcome_129 : decode b_Ref_addOutcome 129 = .ok (.isub, 1) := by decide +kernel
theorem d_Ref_addOutcome_130 : decode b_Ref_addOutcome 130 = .ok (.iaload, 1) := by decide +kernel
theorem d_Ref_addOutcome_131 : decode b_Ref_addOutcome 131 = .ok (.iastore, 1) := by decide +kernel
theorem d_Ref_addOutcome_132 : decode b_Ref_addOutcome 132 = .ok (.iinc 6 (-1), 3) := by decide +kernel
theorem d_Ref_addOutcome_135 : decode b_Ref_addOutcome 135 = .ok (.goto (-29), 3) := by decide +kernel
theorem d_Ref_addOutcome_138 : decode b_Ref_addOutcome 138 = .ok (.aload_n 0, 1) := by decide +kernel
theorem d_Ref_addOutcome_139 : decode b_Ref_addOutcome 139 = .ok (.getfield 44, 3) := by decide +kernel
theorem d_Ref_addOutcome_142 : decode b_Ref_addOutcome 142 = .ok (.iload_n 2, 1) := by decide +kernel
theorem d_Ref_addOutcome_143 : decode b_Ref_addOutcome 143 = .ok (.iload_n 3, 1) := by decide +kernel
theorem d_Ref_addOutcome_144 : decode b_Ref_addOutcome 144 = .ok (.iadd, 1) := by decide +kernel
theorem d_Ref_addOutcome_145 : decode b_Ref_addOutcome 145 = .ok (.iload 5, 2) := by decide +kernel
theorem d_Ref_addOutcome_147 : decode b_Ref_addOutcome 147 = .ok (.iastore, 1) := by decide +kernel
theorem d_Ref_addOutcome_148 : decode b_Ref_addOutcome 148 = .ok (.aload_n 0, 1) := by decide +kernel
theorem d_Ref_addOutcome_149 : decode b_Ref_addOutcome 149 = .ok (.getfield 29, 3) := by decide +kernel
theorem d_Ref_addOutcome_152 : decode b_Ref_addOutcome 152 = .ok (.iload_n 1, 1) := by decide +kernel
theorem d_Ref_addOutcome_153 : decode b_Ref_addOutcome 153 = .ok (.dup2, 1) := by decide +kernel
theorem d_Ref_addOutcome_154 : decode b_Ref_addOutcome 154 = .ok (.iaload, 1) := by decide +kernel
theorem d_Ref_addOutcome_155 : decode b_Ref_addOutcome 155 = .ok (.iconst 1, 1) := by decide +kernel
theorem d_Ref_addOutcome_156 : decode b_Ref_addOutcome 156 = .ok (.iadd, 1) := by decide +kernel
theorem d_Ref_addOutcome_157 : decode b_Ref_addOutcome 157 = .ok (.iastore, 1) := by decide +kernel
theorem d_Ref_addOutcome_158 : decode b_Ref_addOutcome 158 = .ok (.iconst 0, 1) := by decide +kernel
theorem d_Ref_addOutcome_159 : decode b_Ref_addOutcome 159 = .ok (.istore 6, 2) := by decide +kernel
theorem d_Ref_addOutcome_161 : decode b_Ref_addOutcome 161 = .ok (.iload 6, 2) := by decide +kernel
theorem d_Ref_addOutcome_163 : decode b_Ref_addOutcome 163 = .ok (.bipush 11, 2) := by decide +kernel
theorem d_Ref_addOutcome_165 : decode b_Ref_addOutcome 165 = .ok (.if_icmp .ge 32, 3) := by decide +kernel
theorem d_Ref_addOutcome_168 : decode b_Ref_addOutcome 168 = .ok (.aload_n 0, 1) := by decide +kernel
theorem d_Ref_addOutcome_169 : decode b_Ref_addOutcome 169 = .ok (.getfield 33, 3) := by decide +kernel
theorem d_Ref_addOutcome_172 : decode b_Ref_addOutcome 172 = .ok (.bipush 11, 2) := by decide +kernel
theorem d_Ref_addOutcome_174 : decode b_Ref_addOutcome 174 = .ok (.iload_n 2, 1) := by decide +kernel
theorem d_Ref_addOutcome_175 : decode b_Ref_addOutcome 175 = .ok (.iload 5, 2) := by decide +kernel
theorem d_Ref_addOutcome_177 : decode b_Ref_addOutcome 177 = .ok (.iadd, 1) := by decide +kernel
theorem d_Ref_addOutcome_178 : decode b_Ref_addOutcome 178 = .ok (.imul, 1) := by decide +kernel
theorem d_Ref_addOutcome_179 : decode b_Ref_addOutcome 179 = .ok (.iload 6, 2) := by decide +kernel
theorem d_Ref_addOutcome_181 : decode b_Ref_addOutcome 181 = .ok (.iadd, 1) := by decide +kernel
theorem d_Ref_addOutcome_182 : decode b_Ref_addOutcome 182 = .ok (.aload_n 0, 1) := by decide +kernel
theorem d_Ref_addOutcome_183 : decode b_Ref_addOutcome 183 = .ok (.getfield 78, 3) := by decide +kernel
theorem d_Ref_addOutcome_186 : decode b_Ref_addOutcome 186 = .ok (.iload 6, 2) := by decide +kernel
theorem d_Ref_addOutcome_188 : decode b_Ref_addOutcome 188 = .ok (.iaload, 1) := by decide +kernel
theorem d_Ref_addOutcome_189 : decode b_Ref_addOutcome 189 = .ok (.i2s, 1) := by decide +kernel
theorem d_Ref_addOutcome_190 : decode b_Ref_addOutcome 190 = .ok (.sastore, 1) := by decide +kernel
theorem d_Ref_addOutcome_191 : decode b_Ref_addOutcome 191 = .ok (.iinc 6 1, 3) := by decide +kernel
theorem d_Ref_addOutcome_194 : decode b_Ref_addOutcome 194 = .ok (.goto (-33), 3) := by decide +kernel
theorem d_Ref_addOutcome_197 : decode b_Ref_addOutcome 197 = .ok (.iload 5, 2) := by decide +kernel
theorem d_Ref_addOutcome_199 : decode b_Ref_addOutcome 199 = .ok (.ireturn, 1) := by decide +kernel
theorem d_Ref_markRaces_0 : decode b_Ref_markRaces 0 = .ok (.iconst 0, 1) := by decide +kernel
theorem d_Ref_markRaces_1 : decode b_Ref_markRaces 1 = .ok (.istore_n 1, 1) := by decide +kernel
theorem d_Ref_markRaces_2 : decode b_Ref_markRaces 2 = .ok (.iload_n 1, 1) := by decide +kernel
theorem d_Ref_markRaces_3 : decode b_Ref_markRaces 3 = .ok (.aload_n 0, 1) := by decide +kernel
theorem d_Ref_markRaces_4 : decode b_Ref_markRaces 4 = .ok (.getfield 133, 3) := by decide +kernel
theorem d_Ref_markRaces_7 : decode b_Ref_markRaces 7 = .ok (.if_icmp .ge 197, 3) := by decide +kernel
theorem d_Ref_markRaces_10 : decode b_Ref_markRaces 10 = .ok (.iload_n 1, 1) := by decide +kernel
theorem d_Ref_markRaces_11 : decode b_Ref_markRaces 11 = .ok (.iconst 1, 1) := by decide +kernel
theorem d_Ref_markRaces_12 : decode b_Ref_markRaces 12 = .ok (.iadd, 1) := by decide +kernel
theorem d_Ref_markRaces_13 : decode b_Ref_markRaces 13 = .ok (.istore_n 2, 1) := by decide +kernel
theorem d_Ref_markRaces_14 : decode b_Ref_markRaces 14 = .ok (.iload_n 2, 1) := by decide +kernel
theorem d_Ref_markRaces_15 : decode b_Ref_markRaces 15 = .ok (.aload_n 0, 1) := by decide +kernel
theorem d_Ref_markRaces_16 : decode b_Ref_markRaces 16 = .ok (.getfield 133, 3) := by decide +kernel
theorem d_Ref_markRaces_19 : decode b_Ref_markRaces 19 = .ok (.if_icmp .ge 179, 3) := by decide +kernel
theorem d_Ref_markRaces_22 : decode b_Ref_markRaces 22 = .ok (.aload_n 0, 1) := by decide +kernel
theorem d_Ref_markRaces_23 : decode b_Ref_markRaces 23 = .ok (.getfield 53, 3) := by decide +kernel
theorem d_Ref_markRaces_26 : decode b_Ref_markRaces 26 = .ok (.iload_n 1, 1) := by decide +kernel
theorem d_Ref_markRaces_27 : decode b_Ref_markRaces 27 = .ok (.iaload, 1) := by decide +kernel
theorem d_Ref_markRaces_28 : decode b_Ref_markRaces 28 = .ok (.aload_n 0, 1) := by decide +kernel
theorem d_Ref_markRaces_29 : decode b_Ref_markRaces 29 = .ok (.getfield 7, 3) := by decide +kernel
theorem d_Ref_markRaces_32 : decode b_Ref_markRaces 32 = .ok (.iload_n 1, 1) := by decide +kernel
theorem d_Ref_markRaces_33 : decode b_Ref_markRaces 33 = .ok (.iaload, 1) := by decide +kernel
theorem d_Ref_markRaces_34 : decode b_Ref_markRaces 34 = .ok (.if_icmp .ge 158, 3) := by decide +kernel
theorem d_Ref_markRaces_37 : decode b_Ref_markRaces 37 = .ok (.aload_n 0, 1) := by decide +kernel
theorem d_Ref_markRaces_38 : decode b_Ref_markRaces 38 = .ok (.getfield 53, 3) := by decide +kernel
theorem d_Ref_markRaces_41 : decode b_Ref_markRaces 41 = .ok (.iload_n 2, 1) := by decide +kernel
theorem d_Ref_markRaces_42 : decode b_Ref_markRaces 42 = .ok (.iaload, 1) := by decide +kernel
theorem d_Ref_markRaces_43 : decode b_Ref_markRaces 43 = .ok (.aload_n 0, 1) := by decide +kernel
theorem d_Ref_markRaces_44 : decode b_Ref_markRaces 44 = .ok (.getfield 7, 3) := by decide +kernel
theorem d_Ref_markRaces_47 : decode b_Ref_markRaces 47 = .ok (.iload_n 2, 1) := by decide +kernel
theorem d_Ref_markRaces_48 : decode b_Ref_markRaces 48 = .ok (.iaload, 1) := by decide +kernel
theorem d_Ref_markRaces_49 : decode b_Ref_markRaces 49 = .ok (.if_icmp .ge 143, 3) := by decide +kernel
theorem d_Ref_markRaces_52 : decode b_Ref_markRaces 52 = .ok (.bipush 7, 2) := by decide +kernel
theorem d_Ref_markRaces_54 : decode b_Ref_markRaces 54 = .ok (.iload_n 1, 1) := by decide +kernel
theorem d_Ref_markRaces_55 : decode b_Ref_markRaces 55 = .ok (.imul, 1) := by decide +kernel
theorem d_Ref_markRaces_56 : decode b_Ref_markRaces 56 = .ok (.aload_n 0, 1) := by decide +kernel
theorem d_Ref_markRaces_57 : decode b_Ref_markRaces 57 = .ok (.getfield 53, 3) := by decide +kernel
theorem d_Ref_markRaces_60 : decode b_Ref_markRaces 60 = .ok (.iload_n 1, 1) := by decide +kernel
theorem d_Ref_markRaces_61 : decode b_Ref_markRaces 61 = .ok (.iaload, 1) := by decide +kernel
theorem d_Ref_markRaces_62 : decode b_Ref_markRaces 62 = .ok (.iadd, 1) := by decide +kernel
theorem d_Ref_markRaces_63 : decode b_Ref_markRaces 63 = .ok (.istore_n 3, 1) := by decide +kernel
theorem d_Ref_markRaces_64 : decode b_Ref_markRaces 64 = .ok (.bipush 7, 2) := by decide +kernel
theorem d_Ref_markRaces_66 : decode b_Ref_markRaces 66 = .ok (.iload_n 2, 1) := by decide +kernel
theorem d_Ref_markRaces_67 : decode b_Ref_markRaces 67 = .ok (.imul, 1) := by decide +kernel
theorem d_Ref_markRaces_68 : decode b_Ref_markRaces 68 = .ok (.aload_n 0, 1) := by decide +kernel
theorem d_Ref_markRaces_69 : decode b_Ref_markRaces 69 = .ok (.getfield 53, 3) := by decide +kernel
theorem d_Ref_markRaces_72 : decode b_Ref_markRaces 72 = .ok (.iload_n 2, 1) := by decide +kernel
theorem d_Ref_markRaces_73 : decode b_Ref_markRaces 73 = .ok (.iaload, 1) := by decide +kernel
theorem d_Ref_markRaces_74 : decode b_Ref_markRaces 74 = .ok (.iadd, 1) := by decide +kernel
theorem d_Ref_markRaces_75 : decode b_Ref_markRaces 75 = .ok (.istore 4, 2) := by decide +kernel
theorem d_Ref_markRaces_77 : decode b_Ref_markRaces 77 = .ok (.aload_n 0, 1) := by decide +kernel
theorem d_Ref_markRaces_78 : decode b_Ref_markRaces 78 = .ok (.getfield 13, 3) := by decide +kernel
theorem d_Ref_markRaces_81 : decode b_Ref_markRaces 81 = .ok (.iload_n 3, 1) := by decide +kernel
theorem d_Ref_markRaces_82 : decode b_Ref_markRaces 82 = .ok (.iaload, 1) := by decide +kernel
theorem d_Ref_markRaces_83 : decode b_Ref_markRaces 83 = .ok (.iconst 3, 1) := by decide +kernel
theorem d_Ref_markRaces_84 : decode b_Ref_markRaces 84 = .ok (.if_icmp .gt 34, 3) := by decide +kernel
theorem d_Ref_markRaces_87 : decode b_Ref_markRaces 87 = .ok (.aload_n 0, 1) := by decide +kernel
theorem d_Ref_markRaces_88 : decode b_Ref_markRaces 88 = .ok (.getfield 13, 3) := by decide +kernel
theorem d_Ref_markRaces_91 : decode b_Ref_markRaces 91 = .ok (.iload 4, 2) := by decide +kernel
theorem d_Ref_markRaces_93 : decode b_Ref_markRaces 93 = .ok (.iaload, 1) := by decide +kernel
theorem d_Ref_markRaces_94 : decode b_Ref_markRaces 94 = .ok (.iconst 3, 1) := by decide +kernel
theorem d_Ref_markRaces_95 : decode b_Ref_markRaces 95 = .ok (.if_icmp .gt 23, 3) := by decide +kernel
theorem d_Ref_markRaces_98 : decode b_Ref_markRaces 98 = .ok (.aload_n 0, 1) := by decide +kernel
theorem d_Ref_markRaces_99 : decode b_Ref_markRaces 99 = .ok (.getfield 16, 3) := by decide +kernel
theorem d_Ref_markRaces_102 : decode b_Ref_markRaces 102 = .ok (.iload_n 3, 1) := by decide +kernel
theorem d_Ref_markRaces_103 : decode b_Ref_markRaces 103 = .ok (.iaload, 1) := by decide +kernel
theorem d_Ref_markRaces_104 : decode b_Ref_markRaces 104 = .ok (.aload_n 0, 1) := by decide +kernel
theorem d_Ref_markRaces_105 : decode b_Ref_markRaces 105 = .ok (.getfield 16, 3) := by decide +kernel
theorem d_Ref_markRaces_108 : decode b_Ref_markRaces 108 = .ok (.iload 4, 2) := by decide +kernel
theorem d_Ref_markRaces_110 : decode b_Ref_markRaces 110 = .ok (.iaload, 1) := by decide +kernel
theorem d_Ref_markRaces_111 : decode b_Ref_markRaces 111 = .ok (.if_icmp .ne 7, 3) := by decide +kernel
theorem d_Ref_markRaces_114 : decode b_Ref_markRaces 114 = .ok (.iconst 1, 1) := by decide +kernel
theorem d_Ref_markRaces_115 : decode b_Ref_markRaces 115 = .ok (.goto 4, 3) := by decide +kernel
theorem d_Ref_markRaces_118 : decode b_Ref_markRaces 118 = .ok (.iconst 0, 1) := by decide +kernel
theorem d_Ref_markRaces_119 : decode b_Ref_markRaces 119 = .ok (.istore 5, 2) := by decide +kernel
theorem d_Ref_markRaces_121 : decode b_Ref_markRaces 121 = .ok (.iload 5, 2) := by decide +kernel
theorem d_Ref_markRaces_123 : decode b_Ref_markRaces 123 = .ok (.ifCond .eq 69, 3) := by decide +kernel
theorem d_Ref_markRaces_126 : decode b_Ref_markRaces 126 = .ok (.aload_n 0, 1) := by decide +kernel
theorem d_Ref_markRaces_127 : decode b_Ref_markRaces 127 = .ok (.getfield 13, 3) := by decide +kernel
theorem d_Ref_markRaces_130 : decode b_Ref_markRaces 130 = .ok (.iload_n 3, 1) := by decide +kernel
theorem d_Ref_markRaces_131 : decode b_Ref_markRaces 131 = .ok (.iaload, 1) := by decide +kernel
theorem d_Ref_markRaces_132 : decode b_Ref_markRaces 132 = .ok (.ifCond .ne 13, 3) := by decide +kernel
theorem d_Ref_markRaces_135 : decode b_Ref_markRaces 135 = .ok (.aload_n 0, 1) := by decide +kernel
theorem d_Ref_markRaces_136 : decode b_Ref_markRaces 136 = .ok (.getfield 13, 3) := by decide +kernel
theorem d_Ref_markRaces_139 : decode b_Ref_markRaces 139 = .ok (.iload 4, 2) := by decide +kernel
theorem d_Ref_markRaces_141 : decode b_Ref_markRaces 141 = .ok (.iaload, 1) := by decide +kernel
theorem d_Ref_markRaces_142 : decode b_Ref_markRaces 142 = .ok (.ifCond .eq 50, 3) := by decide +kernel
theorem d_Ref_markRaces_145 : decode b_Ref_markRaces 145 = .ok (.aload_n 0, 1) := by decide +kernel
theorem d_Ref_markRaces_146 : decode b_Ref_markRaces 146 = .ok (.getfield 13, 3) := by decide +kernel
theorem d_Ref_markRaces_149 : decode b_Ref_markRaces 149 = .ok (.iload_n 3, 1) := by decide +kernel
theorem d_Ref_markRaces_150 : decode b_Ref_markRaces 150 = .ok (.iaload, 1) := by decide +kernel
theorem d_Ref_markRaces_151 : decode b_Ref_markRaces 151 = .ok (.iconst 3, 1) := by decide +kernel
theorem d_Ref_markRaces_152 : decode b_Ref_markRaces 152 = .ok (.if_icmp .ne 14, 3) := by decide +kernel
theorem d_Ref_markRaces_155 : decode b_Ref_markRaces 155 = .ok (.aload_n 0, 1) := by decide +kernel
theorem d_Ref_markRaces_156 : decode b_Ref_markRaces 156 = .ok (.getfield 13, 3) := by decide +kernel
theorem d_Ref_markRaces_159 : decode b_Ref_markRaces 159 = .ok (.iload 4, 2) := by decide +kernel
theorem d_Ref_markRaces_161 : decode b_Ref_markRaces 161 = .ok (.iaload, 1) := by decide +kernel
theorem d_Ref_markRaces_162 : decode b_Ref_markRaces 162 = .ok (.iconst 3, 1) := by decide +kernel
theorem d_Ref_markRaces_163 : decode b_Ref_markRaces 163 = .ok (.if_icmp .eq 29, 3) := by decide +kernel
theorem d_Ref_markRaces_166 : decode b_Ref_markRaces 166 = .ok (.aload_n 0, 1) := by decide +kernel
theorem d_Ref_markRaces_167 : decode b_Ref_markRaces 167 = .ok (.getfield 50, 3) := by decide +kernel
theorem d_Ref_markRaces_170 : decode b_Ref_markRaces 170 = .ok (.bipush 28, 2) := by decide +kernel
theorem d_Ref_markRaces_172 : decode b_Ref_markRaces 172 = .ok (.iload_n 3, 1) := by decide +kernel
theorem d_Ref_markRaces_173 : decode b_Ref_markRaces 173 = .ok (.imul, 1) := by decide +kernel
theorem d_Ref_markRaces_174 : decode b_Ref_markRaces 174 = .ok (.iload 4, 2) := by decide +kernel
theorem d_Ref_markRaces_176 : decode b_Ref_markRaces 176 = .ok (.iadd, 1) := by decide +kernel
theorem d_Ref_markRaces_177 : decode b_Ref_markRaces 177 = .ok (.iconst 1, 1) := by decide +kernel
theorem d_Ref_markRaces_178 : decode b_Ref_markRaces 178 = .ok (.bastore, 1) := by decide +kernel
theorem d_Ref_markRaces_179 : decode b_Ref_markRaces 179 = .ok (.aload_n 0, 1) := by decide +kernel
theorem d_Ref_markRaces_180 : decode b_Ref_markRaces 180 = .ok (.getfield 50, 3) := by decide +kernel
theorem d_Ref_markRaces_183 : decode b_Ref_markRaces 183 = .ok (.bipush 28, 2) := by decide +kernel
theorem d_Ref_markRaces_185 : decode b_Ref_markRaces 185 = .ok (.iload 4, 2) := by decide +kernel
theorem d_Ref_markRaces_187 : decode b_Ref_markRaces 187 = .ok (.imul, 1) := by decide +kernel
theorem d_Ref_markRaces_188 : decode b_Ref_markRaces 188 = .ok (.iload_n 3, 1) := by decide +kernel
theorem d_Ref_markRaces_189 : decode b_Ref_markRaces 189 = .ok (.iadd, 1) := by decide +kernel
theorem d_Ref_markRaces_190 : decode b_Ref_markRaces 190 = .ok (.iconst 1, 1) := by decide +kernel
theorem d_Ref_markRaces_191 : decode b_Ref_markRaces 191 = .ok (.bastore, 1) := by decide +kernel
theorem d_Ref_markRaces_192 : decode b_Ref_markRaces 192 = .ok (.iinc 2 1, 3) := by decide +kernel
theorem d_Ref_markRaces_195 : decode b_Ref_markRaces 195 = .ok (.goto (-181), 3) := by decide +kernel
theorem d_Ref_markRaces_198 : decode b_Ref_markRaces 198 = .ok (.iinc 1 1, 3) := by decide +kernel
theorem d_Ref_markRaces_201 : decode b_Ref_markRaces 201 = .ok (.goto (-199), 3) := by decide +kernel
theorem d_Ref_markRaces_204 : decode b_Ref_markRaces 204 = .ok (.return_, 1) := by decide +kernel
theorem d_Ref_findRaces_0 : decode b_Ref_findRaces 0 = .ok (.aload_n 0, 1) := by decide +kernel
theorem d_Ref_findRaces_1 : decode b_Ref_findRaces 1 = .ok (.getfield 129, 3) := by decide +kernel
theorem d_Ref_findRaces_4 : decode b_Ref_findRaces 4 = .ok (.ifCond .ne 36, 3) := by decide +kernel
theorem d_Ref_findRaces_7 : decode b_Ref_findRaces 7 = .ok (.iconst 0, 1) := by decide +kernel
theorem d_Ref_findRaces_8 : decode b_Ref_findRaces 8 = .ok (.istore_n 1, 1) := by decide +kernel
theorem d_Ref_findRaces_9 : decode b_Ref_findRaces 9 = .ok (.iload_n 1, 1) := by decide +kernel
theorem d_Ref_findRaces_10 : decode b_Ref_findRaces 10 = .ok (.sipush 784, 3) := by decide +kernel
theorem d_Ref_findRaces_13 : decode b_Ref_findRaces 13 = .ok (.if_icmp .ge 16, 3) := by decide +kernel
theorem d_Ref_findRaces_16 : decode b_Ref_findRaces 16 = .ok (.aload_n 0, 1) := by decide +kernel
theorem d_Ref_findRaces_17 : decode b_Ref_findRaces 17 = .ok (.getfield 50, 3) := by decide +kernel
theorem d_Ref_findRaces_20 : decode b_Ref_findRaces 20 = .ok (.iload_n 1, 1) := by decide +kernel
theorem d_Ref_findRaces_21 : decode b_Ref_findRaces 21 = .ok (.iconst 0, 1) := by decide +kernel
theorem d_Ref_findRaces_22 : decode b_Ref_findRaces 22 = .ok (.bastore, 1) := by decide +kernel
theorem d_Ref_findRaces_23 : decode b_Ref_findRaces 23 = .ok (.iinc 1 1, 3) := by decide +kernel
theorem d_Ref_findRaces_26 : decode b_Ref_findRaces 26 = .ok (.goto (-17), 3) := by decide +kernel
theorem d_Ref_findRaces_29 : decode b_Ref_findRaces 29 = .ok (.aload_n 0, 1) := by decide +kernel
theorem d_Ref_findRaces_30 : decode b_Ref_findRaces 30 = .ok (.iconst 0, 1) := by decide +kernel
theorem d_Ref_findRaces_31 : decode b_Ref_findRaces 31 = .ok (.iconst 1, 1) := by decide +kernel
theorem d_Ref_findRaces_32 : decode b_Ref_findRaces 32 = .ok (.invokevirtual 238, 3) := by decide +kernel
theorem d_Ref_findRaces_35 : decode b_Ref_findRaces 35 = .ok (.aload_n 0, 1) := by decide +kernel
theorem d_Ref_findRaces_36 : decode b_Ref_findRaces 36 = .ok (.iconst 1, 1) := by decide +kernel
theorem d_Ref_findRaces_37 : decode b_Ref_findRaces 37 = .ok (.putfield 129, 3) := by decide +kernel
theorem d_Ref_findRaces_40 : decode b_Ref_findRaces 40 = .ok (.return_, 1) := by decide +kernel
theorem d_Ref_find_0 : decode b_Ref_find 0 = .ok (.aload_n 0, 1) := by decide +kernel
theorem d_Ref_find_1 : decode b_Ref_find 1 = .ok (.getfield 25, 3) := by decide +kernel
theorem d_Ref_find_4 : decode b_Ref_find 4 = .ok (.iload_n 1, 1) := by decide +kernel
theorem d_Ref_find_5 : decode b_Ref_find 5 = .ok (.baload, 1) := by decide +kernel
theorem d_Ref_find_6 : decode b_Ref_find 6 = .ok (.ifCond .ne 16, 3) := by decide +kernel
theorem d_Ref_find_9 : decode b_Ref_find 9 = .ok (.aload_n 0, 1) := by decide +kernel
theorem d_Ref_find_10 : decode b_Ref_find 10 = .ok (.iload_n 1, 1) := by decide +kernel
theorem d_Ref_find_11 : decode b_Ref_find 11 = .ok (.iconst 0, 1) := by decide +kernel
theorem d_Ref_find_12 : decode b_Ref_find 12 = .ok (.invokevirtual 238, 3) := by decide +kernel
theorem d_Ref_find_15 : decode b_Ref_find 15 = .ok (.aload_n 0, 1) := by decide +kernel
theorem d_Ref_find_16 : decode b_Ref_find 16 = .ok (.getfield 25, 3) := by decide +kernel
theorem d_Ref_find_19 : decode b_Ref_find 19 = .ok (.iload_n 1, 1) := by decide +kernel
theorem d_Ref_find_20 : decode b_Ref_find 20 = .ok (.iconst 1, 1) := by decide +kernel
theorem d_Ref_find_21 : decode b_Ref_find 21 = .ok (.bastore, 1) := by decide +kernel
theorem d_Ref_find_22 : decode b_Ref_find 22 = .ok (.return_, 1) := by decide +kernel
theorem d_Ref_writes_0 : decode b_Ref_writes 0 = .ok (.iload_n 0, 1) := by decide +kernel
theorem d_Ref_writes_1 : decode b_Ref_writes 1 = .ok (.iconst 1, 1) := by decide +kernel
theorem d_Ref_writes_2 : decode b_Ref_writes 2 = .ok (.if_icmp .lt 12, 3) := by decide +kernel
theorem d_Ref_writes_5 : decode b_Ref_writes 5 = .ok (.iload_n 0, 1) := by decide +kernel
theorem d_Ref_writes_6 : decode b_Ref_writes 6 = .ok (.iconst 3, 1) := by decide +kernel
theorem d_Ref_writes_7 : decode b_Ref_writes 7 = .ok (.if_icmp .gt 7, 3) := by decide +kernel
theorem d_Ref_writes_10 : decode b_Ref_writes 10 = .ok (.iconst 1, 1) := by decide +kernel
theorem d_Ref_writes_11 : decode b_Ref_writes 11 = .ok (.goto 4, 3) := by decide +kernel
theorem d_Ref_writes_14 : decode b_Ref_writes 14 = .ok (.iconst 0, 1) := by decide +kernel
theorem d_Ref_writes_15 : decode b_Ref_writes 15 = .ok (.ireturn, 1) := by decide +kernel
theorem d_Ref_takes_0 : decode b_Ref_takes 0 = .ok (.iload_n 0, 1) := by decide +kernel
theorem d_Ref_takes_1 : decode b_Ref_takes 1 = .ok (.ifCond .eq 8, 3) := by decide +kernel
theorem d_Ref_takes_4 : decode b_Ref_takes 4 = .ok (.iload_n 0, 1) := by decide +kernel
theorem d_Ref_takes_5 : decode b_Ref_takes 5 = .ok (.iconst 3, 1) := by decide +kernel
theorem d_Ref_takes_6 : decode b_Ref_takes 6 = .ok (.if_icmp .ne 7, 3) := by decide +kernel
theorem d_Ref_takes_9 : decode b_Ref_takes 9 = .ok (.iconst 1, 1) := by decide +kernel
theorem d_Ref_takes_10 : decode b_Ref_takes 10 = .ok (.goto 4, 3) := by decide +kernel
theorem d_Ref_takes_13 : decode b_Ref_takes 13 = .ok (.iconst 0, 1) := by decide +kernel
theorem d_Ref_takes_14 : decode b_Ref_takes 14 = .ok (.ireturn, 1) := by decide +kernel
theorem d_Ref_findGraphs_0 : decode b_Ref_findGraphs 0 = .ok (.aload_n 0, 1) := by decide +kernel
theorem d_Ref_findGraphs_1 : decode b_Ref_findGraphs 1 = .ok (.getfield 25, 3) := by decide +kernel
theorem d_Ref_findGraphs_4 : decode b_Ref_findGraphs 4 = .ok (.iconst 4, 1) := by decide +kernel
theorem d_Ref_findGraphs_5 : decode b_Ref_findGraphs 5 = .ok (.iload_n 1, 1) := by decide +kernel
theorem d_Ref_findGraphs_6 : decode b_Ref_findGraphs 6 = .ok (.iadd, 1) := by decide +kernel
theorem d_Ref_findGraphs_7 : decode b_Ref_findGraphs 7 = .ok (.baload, 1) := by decide +kernel
theorem d_Ref_findGraphs_8 : decode b_Ref_findGraphs 8 = .ok (.ifCond .eq 4, 3) := by decide +kernel
theorem d_Ref_findGraphs_11 : decode b_Ref_findGraphs 11 = .ok (.return_, 1) := by decide +kernel
theorem d_Ref_findGraphs_12 : decode b_Ref_findGraphs 12 = .ok (.aload_n 0, 1) := by decide +kernel
theorem d_Ref_findGraphs_13 : decode b_Ref_findGraphs 13 = .ok (.getfield 25, 3) := by decide +kernel
theorem d_Ref_findGraphs_16 : decode b_Ref_findGraphs 16 = .ok (.iconst 4, 1) := by decide +kernel
theorem d_Ref_findGraphs_17 : decode b_Ref_findGraphs 17 = .ok (.iload_n 1, 1) := by decide +kernel
theorem d_Ref_findGraphs_18 : decode b_Ref_findGraphs 18 = .ok (.iadd, 1) := by decide +kernel
theorem d_Ref_findGraphs_19 : decode b_Ref_findGraphs 19 = .ok (.iconst 1, 1) := by decide +kernel
theorem d_Ref_findGraphs_20 : decode b_Ref_findGraphs 20 = .ok (.bastore, 1) := by decide +kernel
theorem d_Ref_findGraphs_21 : decode b_Ref_findGraphs 21 = .ok (.aload_n 0, 1) := by decide +kernel
theorem d_Ref_findGraphs_22 : decode b_Ref_findGraphs 22 = .ok (.getfield 29, 3) := by decide +kernel
theorem d_Ref_findGraphs_25 : decode b_Ref_findGraphs 25 = .ok (.iconst 4, 1) := by decide +kernel
theorem d_Ref_findGraphs_26 : decode b_Ref_findGraphs 26 = .ok (.iload_n 1, 1) := by decide +kernel
theorem d_Ref_findGraphs_27 : decode b_Ref_findGraphs 27 = .ok (.iadd, 1) := by decide +kernel
theorem d_Ref_findGraphs_28 : decode b_Ref_findGraphs 28 = .ok (.iconst 0, 1) := by decide +kernel
theorem d_Ref_findGraphs_29 : decode b_Ref_findGraphs 29 = .ok (.iastore, 1) := by decide +kernel
theorem d_Ref_findGraphs_30 : decode b_Ref_findGraphs 30 = .ok (.aload_n 0, 1) := by decide +kernel
theorem d_Ref_findGraphs_31 : decode b_Ref_findGraphs 31 = .ok (.getfield 47, 3) := by decide +kernel
theorem d_Ref_findGraphs_34 : decode b_Ref_findGraphs 34 = .ok (.iload_n 1, 1) := by decide +kernel
theorem d_Ref_findGraphs_35 : decode b_Ref_findGraphs 35 = .ok (.iconst 0, 1) := by decide +kernel
theorem d_Ref_findGraphs_36 : decode b_Ref_findGraphs 36 = .ok (.iastore, 1) := by decide +kernel
theorem d_Ref_findGraphs_37 : decode b_Ref_findGraphs 37 = .ok (.aload_n 0, 1) := by decide +kernel
theorem d_Ref_findGraphs_38 : decode b_Ref_findGraphs 38 = .ok (.iload_n 1, 1) := by decide +kernel
theorem d_Ref_findGraphs_39 : decode b_Ref_findGraphs 39 = .ok (.putfield 242, 3) := by decide +kernel
theorem d_Ref_findGraphs_42 : decode b_Ref_findGraphs 42 = .ok (.aload_n 0, 1) := by decide +kernel
theorem d_Ref_findGraphs_43 : decode b_Ref_findGraphs 43 = .ok (.iconst 0, 1) := by decide +kernel
theorem d_Ref_findGraphs_44 : decode b_Ref_findGraphs 44 = .ok (.putfield 245, 3) := by decide +kernel
theorem d_Ref_findGraphs_47 : decode b_Ref_findGraphs 47 = .ok (.iconst 0, 1) := by decide +kernel
theorem d_Ref_findGraphs_48 : decode b_Ref_findGraphs 48 = .ok (.istore_n 2, 1) := by decide +kernel
theorem d_Ref_findGraphs_49 : decode b_Ref_findGraphs 49 = .ok (.iload_n 2, 1) := by decide +kernel
theorem d_Ref_findGraphs_50 : decode b_Ref_findGraphs 50 = .ok (.aload_n 0, 1) := by decide +kernel
theorem d_Ref_findGraphs_51 : decode b_Ref_findGraphs 51 = .ok (.getfield 133, 3) := by decide +kernel
theorem d_Ref_findGraphs_54 : decode b_Ref_findGraphs 54 = .ok (.if_icmp .ge 69, 3) := by decide +kernel
theorem d_Ref_findGraphs_57 : decode b_Ref_findGraphs 57 = .ok (.iconst 0, 1) := by decide +kernel
theorem d_Ref_findGraphs_58 : decode b_Ref_findGraphs 58 = .ok (.istore_n 3, 1) := by decide +kernel
theorem d_Ref_findGraphs_59 : decode b_Ref_findGraphs 59 = .ok (.iload_n 3, 1) := by decide +kernel
theorem d_Ref_findGraphs_60 : decode b_Ref_findGraphs 60 = .ok (.aload_n 0, 1) := by decide +kernel
theorem d_Ref_findGraphs_61 : decode b_Ref_findGraphs 61 = .ok (.getfield 7, 3) := by decide +kernel
theorem d_Ref_findGraphs_64 : decode b_Ref_findGraphs 64 = .ok (.iload_n 2, 1) := by decide +kernel
theorem d_Ref_findGraphs_65 : decode b_Ref_findGraphs 65 = .ok (.iaload, 1) := by decide +kernel
theorem d_Ref_findGraphs_66 : decode b_Ref_findGraphs 66 = .ok (.if_icmp .ge 51, 3) := by decide +kernel
theorem d_Ref_findGraphs_69 : decode b_Ref_findGraphs 69 = .ok (.aload_n 0, 1) := by decide +kernel
theorem d_Ref_findGraphs_70 : decode b_Ref_findGraphs 70 = .ok (.getfield 13, 3) := by decide +kernel
theorem d_Ref_findGraphs_73 : decode b_Ref_findGraphs 73 = .ok (.bipush 7, 2) := by decide +kernel
theorem d_Ref_findGraphs_75 : decode b_Ref_findGraphs 75 = .ok (.iload_n 2, 1) := by decide +kernel
theorem d_Ref_findGraphs_76 : decode b_Ref_findGraphs 76 = .ok (.imul, 1) := by decide +kernel
theorem d_Ref_findGraphs_77 : decode b_Ref_findGraphs 77 = .ok (.iload_n 3, 1) := by decide +kernel
theorem d_Ref_findGraphs_78 : decode b_Ref_findGraphs 78 = .ok (.iadd, 1) := by decide +kernel
theorem d_Ref_findGraphs_79 : decode b_Ref_findGraphs 79 = .ok (.iaload, 1) := by decide +kernel
theorem d_Ref_findGraphs_80 : decode b_Ref_findGraphs 80 = .ok (.invokestatic 248, 3) := by decide +kernel
theorem d_Ref_findGraphs_83 : decode b_Ref_findGraphs 83 = .ok (.ifCond .eq 28, 3) := by decide +kernel
theorem d_Ref_findGraphs_86 : decode b_Ref_findGraphs 86 = .ok (.aload_n 0, 1) := by decide +kernel
theorem d_Ref_findGraphs_87 : decode b_Ref_findGraphs 87 = .ok (.getfield 99, 3) := by decide +kernel
theorem d_Ref_findGraphs_90 : decode b_Ref_findGraphs 90 = .ok (.aload_n 0, 1) := by decide +kernel
theorem d_Ref_findGraphs_91 : decode b_Ref_findGraphs 91 = .ok (.getfield 245, 3) := by decide +kernel
theorem d_Ref_findGraphs_94 : decode b_Ref_findGraphs 94 = .ok (.bipush 7, 2) := by decide +kernel
theorem d_Ref_findGraphs_96 : decode b_Ref_findGraphs 96 = .ok (.iload_n 2, 1) := by decide +kernel
theorem d_Ref_findGraphs_97 : decode b_Ref_findGraphs 97 = .ok (.imul, 1) := by decide +kernel
theorem d_Ref_findGraphs_98 : decode b_Ref_findGraphs 98 = .ok (.iload_n 3, 1) := by decide +kernel
theorem d_Ref_findGraphs_99 : decode b_Ref_findGraphs 99 = .ok (.iadd, 1) := by decide +kernel
theorem d_Ref_findGraphs_100 : decode b_Ref_findGraphs 100 = .ok (.iastore, 1) := by decide +kernel
theorem d_Ref_findGraphs_101 : decode b_Ref_findGraphs 101 = .ok (.aload_n 0, 1) := by decide +kernel
theorem d_Ref_findGraphs_102 : decode b_Ref_findGraphs 102 = .ok (.dup, 1) := by decide +kernel
theorem d_Ref_findGraphs_103 : decode b_Ref_findGraphs 103 = .ok (.getfield 245, 3) := by decide +kernel
theorem d_Ref_findGraphs_106 : decode b_Ref_findGraphs 106 = .ok (.iconst 1, 1) := by decide +kernel
theorem d_Ref_findGraphs_107 : decode b_Ref_findGraphs 107 = .ok (.iadd, 1) := by decide +kernel
theorem d_Ref_findGraphs_108 : decode b_Ref_findGraphs 108 = .ok (.putfield 245, 3) := by decide +kernel
theorem d_Ref_findGraphs_111 : decode b_Ref_findGraphs 111 = .ok (.iinc 3 1, 3) := by decide +kernel
theorem d_Ref_findGraphs_114 : decode b_Ref_findGraphs 114 = .ok (.goto (-55), 3) := by decide +kernel
theorem d_Ref_findGraphs_117 : decode b_Ref_findGraphs 117 = .ok (.iinc 2 1, 3) := by decide +kernel
theorem d_Ref_findGraphs_120 : decode b_Ref_findGraphs 120 = .ok (.goto (-71), 3) := by decide +kernel
theorem d_Ref_findGraphs_123 : decode b_Ref_findGraphs 123 = .ok (.aload_n 0, 1) := by decide +kernel
theorem d_Ref_findGraphs_124 : decode b_Ref_findGraphs 124 = .ok (.iconst 0, 1) := by decide +kernel
theorem d_Ref_findGraphs_125 : decode b_Ref_findGraphs 125 = .ok (.invokevirtual 251, 3) := by decide +kernel
theorem d_Ref_findGraphs_128 : decode b_Ref_findGraphs 128 = .ok (.return_, 1) := by decide +kernel
theorem d_Ref_choose_0 : decode b_Ref_choose 0 = .ok (.iload_n 1, 1) := by decide +kernel
theorem d_Ref_choose_1 : decode b_Ref_choose 1 = .ok (.aload_n 0, 1) := by decide +kernel
theorem d_Ref_choose_2 : decode b_Ref_choose 2 = .ok (.getfield 245, 3) := by decide +kernel
theorem d_Ref_choose_5 : decode b_Ref_choose 5 = .ok (.if_icmp .ne 8, 3) := by decide +kernel
theorem d_Ref_choose_8 : decode b_Ref_choose 8 = .ok (.aload_n 0, 1) := by decide +kernel
theorem d_Ref_choose_9 : decode b_Ref_choose 9 = .ok (.invokevirtual 254, 3) := by decide +kernel
theorem d_Ref_choose_12 : decode b_Ref_choose 12 = .ok (.return_, 1) := by decide +kernel
theorem d_Ref_choose_13 : decode b_Ref_choose 13 = .ok (.aload_n 0, 1) := by decide +kernel
theorem d_Ref_choose_14 : decode b_Ref_choose 14 = .ok (.getfield 99, 3) := by decide +kernel
theorem d_Ref_choose_17 : decode b_Ref_choose 17 = .ok (.iload_n 1, 1) := by decide +kernel
theorem d_Ref_choose_18 : decode b_Ref_choose 18 = .ok (.iaload, 1) := by decide +kernel
theorem d_Ref_choose_19 : decode b_Ref_choose 19 = .ok (.istore_n 2, 1) := by decide +kernel
theorem d_Ref_choose_20 : decode b_Ref_choose 20 = .ok (.aload_n 0, 1) := by decide +kernel
theorem d_Ref_choose_21 : decode b_Ref_choose 21 = .ok (.getfield 81, 3) := by decide +kernel
theorem d_Ref_choose_24 : decode b_Ref_choose 24 = .ok (.iload_n 2, 1) := by decide +kernel
theorem d_Ref_choose_25 : decode b_Ref_choose 25 = .ok (.iconst (-1), 1) := by decide +kernel
theorem d_Ref_choose_26 : decode b_Ref_choose 26 = .ok (.iastore, 1) := by decide +kernel
theorem d_Ref_choose_27 : decode b_Ref_choose 27 = .ok (.aload_n 0, 1) := by decide +kernel
theorem d_Ref_choose_28 : decode b_Ref_choose 28 = .ok (.iload_n 1, 1) := by decide +kernel
theorem d_Ref_choose_29 : decode b_Ref_choose 29 = .ok (.invokevirtual 257, 3) := by decide +kernel
theorem d_Ref_choose_32 : decode b_Ref_choose 32 = .ok (.ifCond .eq 10, 3) := by decide +kernel
theorem d_Ref_choose_35 : decode b_Ref_choose 35 = .ok (.aload_n 0, 1) := by decide +kernel
theorem d_Ref_choose_36 : decode b_Ref_choose 36 = .ok (.iload_n 1, 1) := by decide +kernel
theorem d_Ref_choose_37 : decode b_Ref_choose 37 = .ok (.iconst 1, 1) := by decide +kernel
theorem d_Ref_choose_38 : decode b_Ref_choose 38 = .ok (.iadd, 1) := by decide +kernel
theorem d_Ref_choose_39 : decode b_Ref_choose 39 = .ok (.invokevirtual 251, 3) := by decide +kernel
theorem d_Ref_choose_42 : decode b_Ref_choose 42 = .ok (.iconst 0, 1) := by decide +kernel
theorem d_Ref_choose_43 : decode b_Ref_choose 43 = .ok (.istore_n 3, 1) := by decide +kernel
theorem d_Ref_choose_44 : decode b_Ref_choose 44 = .ok (.iload_n 3, 1) := by decide +kernel
theorem d_Ref_choose_45 : decode b_Ref_choose 45 = .ok (.aload_n 0, 1) := by decide +kernel
theorem d_Ref_choose_46 : decode b_Ref_choose 46 = .ok (.getfield 133, 3) := by decide +kernel
theorem d_Ref_choose_49 : decode b_Ref_choose 49 = .ok (.if_icmp .ge 95, 3) := by decide +kernel
theorem d_Ref_choose_52 : decode b_Ref_choose 52 = .ok (.bipush 7, 2) := by decide +kernel
theorem d_Ref_choose_54 : decode b_Ref_choose 54 = .ok (.iload_n 3, 1) := by decide +kernel
theorem d_Ref_choose_55 : decode b_Ref_choose 55 = .ok (.imul, 1) := by decide +kernel
theorem d_Ref_choose_56 : decode b_Ref_choose 56 = .ok (.istore 4, 2) := by decide +kernel
theorem d_Ref_choose_58 : decode b_Ref_choose 58 = .ok (.iload 4, 2) := by decide +kernel
theorem d_Ref_choose_60 : decode b_Ref_choose 60 = .ok (.bipush 7, 2) := by decide +kernel
theorem d_Ref_choose_62 : decode b_Ref_choose 62 = .ok (.iload_n 3, 1) := by decide +kernel
theorem d_Ref_choose_63 : decode b_Ref_choose 63 = .ok (.imul, 1) := by decide +kernel
theorem d_Ref_choose_64 : decode b_Ref_choose 64 = .ok (.aload_n 0, 1) := by decide +kernel
theorem d_Ref_choose_65 : decode b_Ref_choose 65 = .ok (.getfield 7, 3) := by decide +kernel
theorem d_Ref_choose_68 : decode b_Ref_choose 68 = .ok (.iload_n 3, 1) := by decide +kernel
theorem d_Ref_choose_69 : decode b_Ref_choose 69 = .ok (.iaload, 1) := by decide +kernel
theorem d_Ref_choose_70 : decode b_Ref_choose 70 = .ok (.iadd, 1) := by decide +kernel
theorem d_Ref_choose_71 : decode b_Ref_choose 71 = .ok (.if_icmp .ge 67, 3) := by decide +kernel
theorem d_Ref_choose_74 : decode b_Ref_choose 74 = .ok (.iload 4, 2) := by decide +kernel
theorem d_Ref_choose_76 : decode b_Ref_choose 76 = .ok (.iload_n 2, 1) := by decide +kernel
theorem d_Ref_choose_77 : decode b_Ref_choose 77 = .ok (.if_icmp .eq 55, 3) := by decide +kernel
theorem d_Ref_choose_80 : decode b_Ref_choose 80 = .ok (.aload_n 0, 1) := by decide +kernel
theorem d_Ref_choose_81 : decode b_Ref_choose 81 = .ok (.getfield 13, 3) := by decide +kernel
theorem d_Ref_choose_84 : decode b_Ref_choose 84 = .ok (.iload 4, 2) := by decide +kernel
theorem d_Ref_choose_86 : decode b_Ref_choose 86 = .ok (.iaload, 1) := by decide +kernel
theorem d_Ref_choose_87 : decode b_Ref_choose 87 = .ok (.invokestatic 260, 3) := by decide +kernel
theorem d_Ref_choose_90 : decode b_Ref_choose 90 = .ok (.ifCond .eq 42, 3) := by decide +kernel
theorem d_Ref_choose_93 : decode b_Ref_choose 93 = .ok (.aload_n 0, 1) := by decide +kernel
theorem d_Ref_choose_94 : decode b_Ref_choose 94 = .ok (.getfield 16, 3) := by decide +kernel
theorem d_Ref_choose_97 : decode b_Ref_choose 97 = .ok (.iload 4, 2) := by decide +kernel
theorem d_Ref_choose_99 : decode b_Ref_choose 99 = .ok (.iaload, 1) := by decide +kernel
theorem d_Ref_choose_100 : decode b_Ref_choose 100 = .ok (.aload_n 0, 1) := by decide +kernel
theorem d_Ref_choose_101 : decode b_Ref_choose 101 = .ok (.getfield 16, 3) := by decide +kernel
theorem d_Ref_choose_104 : decode b_Ref_choose 104 = .ok (.iload_n 2, 1) := by decide +kernel
theorem d_Ref_choose_105 : decode b_Ref_choose 105 = .ok (.iaload, 1) := by decide +kernel
theorem d_Ref_choose_106 : decode b_Ref_choose 106 = .ok (.if_icmp .ne 26, 3) := by decide +kernel
theorem d_Ref_choose_109 : decode b_Ref_choose 109 = .ok (.aload_n 0, 1) := by decide +kernel
theorem d_Ref_choose_110 : decode b_Ref_choose 110 = .ok (.getfield 81, 3) := by decide +kernel
theorem d_Ref_choose_113 : decode b_Ref_choose 113 = .ok (.iload_n 2, 1) := by decide +kernel
theorem d_Ref_choose_114 : decode b_Ref_choose 114 = .ok (.iload 4, 2) := by decide +kernel
theorem d_Ref_choose_116 : decode b_Ref_choose 116 = .ok (.iastore, 1) := by decide +kernel
theorem d_Ref_choose_117 : decode b_Ref_choose 117 = .ok (.aload_n 0, 1) := by decide +kernel
theorem d_Ref_choose_118 : decode b_Ref_choose 118 = .ok (.iload_n 1, 1) := by decide +kernel
theorem d_Ref_choose_119 : decode b_Ref_choose 119 = .ok (.invokevirtual 257, 3) := by decide +kernel
theorem d_Ref_choose_122 : decode b_Ref_choose 122 = .ok (.ifCond .eq 10, 3) := by decide +kernel
theorem d_Ref_choose_125 : decode b_Ref_choose 125 = .ok (.aload_n 0, 1) := by decide +kernel
theorem d_Ref_choose_126 : decode b_Ref_choose 126 = .ok (.iload_n 1, 1) := by decide +kernel
theorem d_Ref_choose_127 : decode b_Ref_choose 127 = .ok (.iconst 1, 1) := by decide +kernel
theorem d_Ref_choose_128 : decode b_Ref_choose 128 = .ok (.iadd, 1) := by decide +kernel
theorem d_Ref_choose_129 : decode b_Ref_choose 129 = .ok (.invokevirtual 251, 3) := by decide +kernel
theorem d_Ref_choose_132 : decode b_Ref_choose 132 = .ok (.iinc 4 1, 3) := by decide +kernel
theorem d_Ref_choose_135 : decode b_Ref_choose 135 = .ok (.goto (-77), 3) := by decide +kernel
theorem d_Ref_choose_138 : decode b_Ref_choose 138 = .ok (.iinc 3 1, 3) := by decide +kernel
theorem d_Ref_choose_141 : decode b_Ref_choose 141 = .ok (.goto (-97), 3) := by decide +kernel
theorem d_Ref_choose_144 : decode b_Ref_choose 144 = .ok (.return_, 1) := by decide +kernel
theorem d_Ref_isFreeFrom_0 : decode b_Ref_isFreeFrom 0 = .ok (.aload_n 0, 1) := by decide +kernel
theorem d_Ref_isFreeFrom_1 : decode b_Ref_isFreeFrom 1 = .ok (.getfield 99, 3) := by decide +kernel
theorem d_Ref_isFreeFrom_4 : decode b_Ref_isFreeFrom 4 = .ok (.iload_n 1, 1) := by decide +kernel
theorem d_Ref_isFreeFrom_5 : decode b_Ref_isFreeFrom 5 = .ok (.iaload, 1) := by decide +kernel
theorem d_Ref_isFreeFrom_6 : decode b_Ref_isFreeFrom 6 = .ok (.istore_n 2, 1) := by decide +kernel
theorem d_Ref_isFreeFrom_7 : decode b_Ref_isFreeFrom 7 = .ok (.aload_n 0, 1) := by decide +kernel
theorem d_Ref_isFreeFrom_8 : decode b_Ref_isFreeFrom 8 = .ok (.getfield 13, 3) := by decide +kernel
theorem d_Ref_isFreeFrom_11 : decode b_Ref_isFreeFrom 11 = .ok (.iload_n 2, 1) := by decide +kernel
theorem d_Ref_isFreeFrom_12 : decode b_Ref_isFreeFrom 12 = .ok (.iaload, 1) := by decide +kernel
theorem d_Ref_isFreeFrom_13 : decode b_Ref_isFreeFrom 13 = .ok (.iconst 3, 1) := by decide +kernel
theorem d_Ref_isFreeFrom_14 : decode b_Ref_isFreeFrom 14 = .ok (.if_icmp .ne 12, 3) := by decide +kernel
theorem d_Ref_isFreeFrom_17 : decode b_Ref_isFreeFrom 17 = .ok (.aload_n 0, 1) := by decide +kernel
theorem d_Ref_isFreeFrom_18 : decode b_Ref_isFreeFrom 18 = .ok (.getfield 81, 3) := by decide +kernel
theorem d_Ref_isFreeFrom_21 : decode b_Ref_isFreeFrom 21 = .ok (.iload_n 2, 1) := by decide +kernel
theorem d_Ref_isFreeFrom_22 : decode b_Ref_isFreeFrom 22 = .ok (.iaload, 1) := by decide +kernel
theorem d_Ref_isFreeFrom_23 : decode b_Ref_isFreeFrom 23 = .ok (.ifCond .ge 5, 3) := by decide +kernel
theorem d_Ref_isFreeFrom_26 : decode b_Ref_isFreeFrom 26 = .ok (.iconst 1, 1) := by decide +kernel
theorem d_Ref_isFreeFrom_27 : decode b_Ref_isFreeFrom 27 = .ok (.ireturn, 1) := by decide +kernel
theorem d_Ref_isFreeFrom_28 : decode b_Ref_isFreeFrom 28 = .ok (.iconst 0, 1) := by decide +kernel
theorem d_Ref_isFreeFrom_29 : decode b_Ref_isFreeFrom 29 = .ok (.istore_n 3, 1) := by decide +kernel
theorem d_Ref_isFreeFrom_30 : decode b_Ref_isFreeFrom 30 = .ok (.iload_n 3, 1) := by decide +kernel
theorem d_Ref_isFreeFrom_31 : decode b_Ref_isFreeFrom 31 = .ok (.iload_n 1, 1) := by decide +kernel
theorem d_Ref_isFreeFrom_32 : decode b_Ref_isFreeFrom 32 = .ok (.if_icmp .ge 46, 3) := by decide +kernel
theorem d_Ref_isFreeFrom_35 : decode b_Ref_isFreeFrom 35 = .ok (.aload_n 0, 1) := by decide +kernel
theorem d_Ref_isFreeFrom_36 : decode b_Ref_isFreeFrom 36 = .ok (.getfield 13, 3) := by decide +kernel
theorem d_Ref_isFreeFrom_39 : decode b_Ref_isFreeFrom 39 = .ok (.aload_n 0, 1) := by decide +kernel
theorem d_Ref_isFreeFrom_40 : decode b_Ref_isFreeFrom 40 = .ok (.getfield 99, 3) := by decide +kernel
theorem d_Ref_isFreeFrom_43 : decode b_Ref_isFreeFrom 43 = .ok (.iload_n 3, 1) := by decide +kernel
theorem d_Ref_isFreeFrom_44 : decode b_Ref_isFreeFrom 44 = .ok (.iaload, 1) := by decide +kernel
theorem d_Ref_isFreeFrom_45 : decode b_Ref_isFreeFrom 45 = .ok (.iaload, 1) := by decide +kernel
theorem d_Ref_isFreeFrom_46 : decode b_Ref_isFreeFrom 46 = .ok (.iconst 3, 1) := by decide +kernel
theorem d_Ref_isFreeFrom_47 : decode b_Ref_isFreeFrom 47 = .ok (.if_icmp .ne 25, 3) := by decide +kernel
theorem d_Ref_isFreeFrom_50 : decode b_Ref_isFreeFrom 50 = .ok (.aload_n 0, 1) := by decide +kernel
theorem d_Ref_isFreeFrom_51 : decode b_Ref_isFreeFrom 51 = .ok (.getfield 81, 3) := by decide +kernel
theorem d_Ref_isFreeFrom_54 : decode b_Ref_isFreeFrom 54 = .ok (.aload_n 0, 1) := by decide +kernel
theorem d_Ref_isFreeFrom_55 : decode b_Ref_isFreeFrom 55 = .ok (.getfield 99, 3) := by decide +kernel
theorem d_Ref_isFreeFrom_58 : decode b_Ref_isFreeFrom 58 = .ok (.iload_n 3, 1) := by decide +kernel
theorem d_Ref_isFreeFrom_59 : decode b_Ref_isFreeFrom 59 = .ok (.iaload, 1) := by decide +kernel
theorem d_Ref_isFreeFrom_60 : decode b_Ref_isFreeFrom 60 = .ok (.iaload, 1) := by decide +kernel
theorem d_Ref_isFreeFrom_61 : decode b_Ref_isFreeFrom 61 = .ok (.aload_n 0, 1) := by decide +kernel
theorem d_Ref_isFreeFrom_62 : decode b_Ref_isFreeFrom 62 = .ok (.getfield 81, 3) := by decide +kernel
theorem d_Ref_isFreeFrom_65 : decode b_Ref_isFreeFrom 65 = .ok (.iload_n 2, 1) := by decide +kernel
theorem d_Ref_isFreeFrom_66 : decode b_Ref_isFreeFrom 66 = .ok (.iaload, 1) := by decide +kernel
theorem d_Ref_isFreeFrom_67 : decode b_Ref_isFreeFrom 67 = .ok (.if_icmp .ne 5, 3) := by decide +kernel
theorem d_Ref_isFreeFrom_70 : decode b_Ref_isFreeFrom 70 = .ok (.iconst 0, 1) := by decide +kernel
theorem d_Ref_isFreeFrom_71 : decode b_Ref_isFreeFrom 71 = .ok (.ireturn, 1) := by decide +kernel
theorem d_Ref_isFreeFrom_72 : decode b_Ref_isFreeFrom 72 = .ok (.iinc 3 1, 3) := by decide +kernel
theorem d_Ref_isFreeFrom_75 : decode b_Ref_isFreeFrom 75 = .ok (.goto (-45), 3) := by decide +kernel
theorem d_Ref_isFreeFrom_78 : decode b_Ref_isFreeFrom 78 = .ok (.iconst 1, 1) := by decide +kernel
theorem d_Ref_isFreeFrom_79 : decode b_Ref_isFreeFrom 79 = .ok (.ireturn, 1) := by decide +kernel
theorem d_Ref_goes_0 : decode b_Ref_goes 0 = .ok (.iconst 0, 1) := by decide +kernel
theorem d_Ref_goes_1 : decode b_Ref_goes 1 = .ok (.istore_n 1, 1) := by decide +kernel
theorem d_Ref_goes_2 : decode b_Ref_goes 2 = .ok (.iload_n 1, 1) := by decide +kernel
theorem d_Ref_goes_3 : decode b_Ref_goes 3 = .ok (.bipush 28, 2) := by decide +kernel
theorem d_Ref_goes_5 : decode b_Ref_goes 5 = .ok (.if_icmp .ge 23, 3) := by decide +kernel
theorem d_Ref_goes_8 : decode b_Ref_goes 8 = .ok (.aload_n 0, 1) := by decide +kernel
theorem d_Ref_goes_9 : decode b_Ref_goes 9 = .ok (.getfield 84, 3) := by decide +kernel
theorem d_Ref_goes_12 : decode b_Ref_goes 12 = .ok (.iload_n 1, 1) := by decide +kernel
theorem d_Ref_goes_13 : decode b_Ref_goes 13 = .ok (.iconst 0, 1) := by decide +kernel
theorem d_Ref_goes_14 : decode b_Ref_goes 14 = .ok (.bastore, 1) := by decide +kernel
theorem d_Ref_goes_15 : decode b_Ref_goes 15 = .ok (.aload_n 0, 1) := by decide +kernel
theorem d_Ref_goes_16 : decode b_Ref_goes 16 = .ok (.getfield 87, 3) := by decide +kernel
theorem d_Ref_goes_19 : decode b_Ref_goes 19 = .ok (.iload_n 1, 1) := by decide +kernel
theorem d_Ref_goes_20 : decode b_Ref_goes 20 = .ok (.iconst 0, 1) := by decide +kernel
theorem d_Ref_goes_21 : decode b_Ref_goes 21 = .ok (.bastore, 1) := by decide +kernel
theorem d_Ref_goes_22 : decode b_Ref_goes 22 = .ok (.iinc 1 1, 3) := by decide +kernel
theorem d_Ref_goes_25 : decode b_Ref_goes 25 = .ok (.goto (-23), 3) := by decide +kernel
theorem d_Ref_goes_28 : decode b_Ref_goes 28 = .ok (.iconst 0, 1) := by decide +kernel
theorem d_Ref_goes_29 : decode b_Ref_goes 29 = .ok (.istore_n 1, 1) := by decide +kernel
theorem d_Ref_goes_30 : decode b_Ref_goes 30 = .ok (.iload_n 1, 1) := by decide +kernel
theorem d_Ref_goes_31 : decode b_Ref_goes 31 = .ok (.iconst 4, 1) := by decide +kernel
theorem d_Ref_goes_32 : decode b_Ref_goes 32 = .ok (.if_icmp .ge 36, 3) := by decide +kernel
theorem d_Ref_goes_35 : decode b_Ref_goes 35 = .ok (.aload_n 0, 1) := by decide +kernel
theorem d_Ref_goes_36 : decode b_Ref_goes 36 = .ok (.getfield 93, 3) := by decide +kernel
theorem d_Ref_goes_39 : decode b_Ref_goes 39 = .ok (.iload_n 1, 1) := by decide +kernel
theorem d_Ref_goes_40 : decode b_Ref_goes 40 = .ok (.iconst 0, 1) := by decide +kernel
theorem d_Ref_goes_41 : decode b_Ref_goes 41 = .ok (.iastore, 1) := by decide +kernel
theorem d_Ref_goes_42 : decode b_Ref_goes 42 = .ok (.aload_n 0, 1) := by decide +kernel
theorem d_Ref_goes_43 : decode b_Ref_goes 43 = .ok (.getfield 96, 3) := by decide +kernel
theorem d_Ref_goes_46 : decode b_Ref_goes 46 = .ok (.iconst 2, 1) := by decide +kernel
theorem d_Ref_goes_47 : decode b_Ref_goes 47 = .ok (.iload_n 1, 1) := by decide +kernel
theorem d_Ref_goes_48 : decode b_Ref_goes 48 = .ok (.imul, 1) := by decide +kernel
theorem d_Ref_goes_49 : decode b_Ref_goes 49 = .ok (.iconst 0, 1) := by decide +kernel
theorem d_Ref_goes_50 : decode b_Ref_goes 50 = .ok (.iastore, 1) := by decide +kernel
theorem d_Ref_goes_51 : decode b_Ref_goes 51 = .ok (.aload_n 0, 1) := by decide +kernel
theorem d_Ref_goes_52 : decode b_Ref_goes 52 = .ok (.getfield 96, 3) := by decide +kernel
theorem d_Ref_goes_55 : decode b_Ref_goes 55 = .ok (.iconst 2, 1) := by decide +kernel
theorem d_Ref_goes_56 : decode b_Ref_goes 56 = .ok (.iload_n 1, 1) := by decide +kernel
theorem d_Ref_goes_57 : decode b_Ref_goes 57 = .ok (.imul, 1) := by decide +kernel
theorem d_Ref_goes_58 : decode b_Ref_goes 58 = .ok (.iconst 1, 1) := by decide +kernel
theorem d_Ref_goes_59 : decode b_Ref_goes 59 = .ok (.iadd, 1) := by decide +kernel
theorem d_Ref_goes_60 : decode b_Ref_goes 60 = .ok (.iconst 0, 1) := by decide +kernel
theorem d_Ref_goes_61 : decode b_Ref_goes 61 = .ok (.iastore, 1) := by decide +kernel
theorem d_Ref_goes_62 : decode b_Ref_goes 62 = .ok (.iinc 1 1, 3) := by decide +kernel
theorem d_Ref_goes_65 : decode b_Ref_goes 65 = .ok (.goto (-35), 3) := by decide +kernel
theorem d_Ref_goes_68 : decode b_Ref_goes 68 = .ok (.iconst 1, 1) := by decide +kernel
theorem d_Ref_goes_69 : decode b_Ref_goes 69 = .ok (.istore_n 1, 1) := by decide +kernel
theorem d_Ref_goes_70 : decode b_Ref_goes 70 = .ok (.iload_n 1, 1) := by decide +kernel
theorem d_Ref_goes_71 : decode b_Ref_goes 71 = .ok (.ifCond .eq 52, 3) := by decide +kernel
theorem d_Ref_goes_74 : decode b_Ref_goes 74 = .ok (.iconst 0, 1) := by decide +kernel
theorem d_Ref_goes_75 : decode b_Ref_goes 75 = .ok (.istore_n 1, 1) := by decide +kernel
theorem d_Ref_goes_76 : decode b_Ref_goes 76 = .ok (.iconst 0, 1) := by decide +kernel
theorem d_Ref_goes_77 : decode b_Ref_goes 77 = .ok (.istore_n 2, 1) := by decide +kernel
theorem d_Ref_goes_78 : decode b_Ref_goes 78 = .ok (.iload_n 2, 1) := by decide +kernel
theorem d_Ref_goes_79 : decode b_Ref_goes 79 = .ok (.aload_n 0, 1) := by decide +kernel
theorem d_Ref_goes_80 : decode b_Ref_goes 80 = .ok (.getfield 133, 3) := by decide +kernel
theorem d_Ref_goes_83 : decode b_Ref_goes 83 = .ok (.if_icmp .ge 37, 3) := by decide +kernel
theorem d_Ref_goes_86 : decode b_Ref_goes 86 = .ok (.aload_n 0, 1) := by decide +kernel
theorem d_Ref_goes_87 : decode b_Ref_goes 87 = .ok (.getfield 93, 3) := by decide +kernel
theorem d_Ref_goes_90 : decode b_Ref_goes 90 = .ok (.iload_n 2, 1) := by decide +kernel
theorem d_Ref_goes_91 : decode b_Ref_goes 91 = .ok (.iaload, 1) := by decide +kernel
theorem d_Ref_goes_92 : decode b_Ref_goes 92 = .ok (.aload_n 0, 1) := by decide +kernel
theorem d_Ref_goes_93 : decode b_Ref_goes 93 = .ok (.getfield 7, 3) := by decide +kernel
theorem d_Ref_goes_96 : decode b_Ref_goes 96 = .ok (.iload_n 2, 1) := by decide +kernel
theorem d_Ref_goes_97 : decode b_Ref_goes 97 = .ok (.iaload, 1) := by decide +kernel
theorem d_Ref_goes_98 : decode b_Ref_goes 98 = .ok (.if_icmp .ge 16, 3) := by decide +kernel
theorem d_Ref_goes_101 : decode b_Ref_goes 101 = .ok (.aload_n 0, 1) := by decide +kernel
theorem d_Ref_goes_102 : decode b_Ref_goes 102 = .ok (.iload_n 2, 1) := by decide +kernel
theorem d_Ref_goes_103 : decode b_Ref_goes 103 = .ok (.invokevirtual 263, 3) := by decide +kernel
theorem d_Ref_goes_106 : decode b_Ref_goes 106 = .ok (.ifCond .eq 8, 3) := by decide +kernel
theorem d_Ref_goes_109 : decode b_Ref_goes 109 = .ok (.iconst 1, 1) := by decide +kernel
theorem d_Ref_goes_110 : decode b_Ref_goes 110 = .ok (.istore_n 1, 1) := by decide +kernel
theorem d_Ref_goes_111 : decode b_Ref_goes 111 = .ok (.goto (-25), 3) := by decide +kernel
theorem d_Ref_goes_114 : decode b_Ref_goes 114 = .ok (.iinc 2 1, 3) := by decide +kernel
theorem d_Ref_goes_117 : decode b_Ref_goes 117 = .ok (.goto (-39), 3) := by decide +kernel
theorem d_Ref_goes_120 : decode b_Ref_goes 120 = .ok (.goto (-50), 3) := by decide +kernel
theorem d_Ref_goes_123 : decode b_Ref_goes 123 = .ok (.iconst 0, 1) := by decide +kernel
theorem d_Ref_goes_124 : decode b_Ref_goes 124 = .ok (.istore_n 2, 1) := by decide +kernel
theorem d_Ref_goes_125 : decode b_Ref_goes 125 = .ok (.iload_n 2, 1) := by decide +kernel
theorem d_Ref_goes_126 : decode b_Ref_goes 126 = .ok (.aload_n 0, 1) := by decide +kernel
theorem d_Ref_goes_127 : decode b_Ref_goes 127 = .ok (.getfield 133, 3) := by decide +kernel
theorem d_Ref_goes_130 : decode b_Ref_goes 130 = .ok (.if_icmp .ge 26, 3) := by decide +kernel
theorem d_Ref_goes_133 : decode b_Ref_goes 133 = .ok (.aload_n 0, 1) := by decide +kernel
theorem d_Ref_goes_134 : decode b_Ref_goes 134 = .ok (.getfield 93, 3) := by decide +kernel
theorem d_Ref_goes_137 : decode b_Ref_goes 137 = .ok (.iload_n 2, 1) := by decide +kernel
theorem d_Ref_goes_138 : decode b_Ref_goes 138 = .ok (.iaload, 1) := by decide +kernel
theorem d_Ref_goes_139 : decode b_Ref_goes 139 = .ok (.aload_n 0, 1) := by decide +kernel
theorem d_Ref_goes_140 : decode b_Ref_goes 140 = .ok (.getfield 7, 3) := by decide +kernel
theorem d_Ref_goes_143 : decode b_Ref_goes 143 = .ok (.iload_n 2, 1) := by decide +kernel
theorem d_Ref_goes_144 : decode b_Ref_goes 144 = .ok (.iaload, 1) := by decide +kernel
theorem d_Ref_goes_145 : decode b_Ref_goes 145 = .ok (.if_icmp .ge 5, 3) := by decide +kernel
theorem d_Ref_goes_148 : decode b_Ref_goes 148 = .ok (.iconst 0, 1) := by decide +kernel
theorem d_Ref_goes_149 : decode b_Ref_goes 149 = .ok (.ireturn, 1) := by decide +kernel
theorem d_Ref_goes_150 : decode b_Ref_goes 150 = .ok (.iinc 2 1, 3) := by decide +kernel
theorem d_Ref_goes_153 : decode b_Ref_goes 153 = .ok (.goto (-28), 3) := by decide +kernel
theorem d_Ref_goes_156 : decode b_Ref_goes 156 = .ok (.iconst 0, 1) := by decide +kernel
theorem d_Ref_goes_157 : decode b_Ref_goes 157 = .ok (.istore_n 2, 1) := by decide +kernel
theorem d_Ref_goes_158 : decode b_Ref_goes 158 = .ok (.iconst 0, 1) := by decide +kernel
theorem d_Ref_goes_159 : decode b_Ref_goes 159 = .ok (.istore_n 3, 1) := by decide +kernel
theorem d_Ref_goes_160 : decode b_Ref_goes 160 = .ok (.iload_n 3, 1) := by decide +kernel
theorem d_Ref_goes_161 : decode b_Ref_goes 161 = .ok (.aload_n 0, 1) := by decide +kernel
theorem d_Ref_goes_162 : decode b_Ref_goes 162 = .ok (.getfield 245, 3) := by decide +kernel
theorem d_Ref_goes_165 : decode b_Ref_goes 165 = .ok (.if_icmp .ge 39, 3) := by decide +kernel
theorem d_Ref_goes_168 : decode b_Ref_goes 168 = .ok (.aload_n 0, 1) := by decide +kernel
theorem d_Ref_goes_169 : decode b_Ref_goes 169 = .ok (.getfield 99, 3) := by decide +kernel
theorem d_Ref_goes_172 : decode b_Ref_goes 172 = .ok (.iload_n 3, 1) := by decide +kernel
theorem d_Ref_goes_173 : decode b_Ref_goes 173 = .ok (.iaload, 1) := by decide +kernel
theorem d_Ref_goes_174 : decode b_Ref_goes 174 = .ok (.istore 4, 2) := by decide +kernel
theorem d_Ref_goes_176 : decode b_Ref_goes 176 = .ok (.aload_n 0, 1) := by decide +kernel
theorem d_Ref_goes_177 : decode b_Ref_goes 177 = .ok (.getfield 84, 3) := by decide +kernel
theorem d_Ref_goes_180 : decode b_Ref_goes 180 = .ok (.iload 4, 2) := by decide +kernel
theorem d_Ref_goes_182 : decode b_Ref_goes 182 = .ok (.baload, 1) := by decide +kernel
theorem d_Ref_goes_183 : decode b_Ref_goes 183 = .ok (.ifCond .ne 15, 3) := by decide +kernel
theorem d_Ref_goes_186 : decode b_Ref_goes 186 = .ok (.aload_n 0, 1) := by decide +kernel
theorem d_Ref_goes_187 : decode b_Ref_goes 187 = .ok (.getfield 81, 3) := by decide +kernel
theorem d_Ref_goes_190 : decode b_Ref_goes 190 = .ok (.iload 4, 2) := by decide +kernel
theorem d_Ref_goes_192 : decode b_Ref_goes 192 = .ok (.iaload, 1) := by decide +kernel
theorem d_Ref_goes_193 : decode b_Ref_goes 193 = .ok (.ifCond .lt 5, 3) := by decide +kernel
theorem d_Ref_goes_196 : decode b_Ref_goes 196 = .ok (.iconst 0, 1) := by decide +kernel
theorem d_Ref_goes_197 : decode b_Ref_goes 197 = .ok (.ireturn, 1) := by decide +kernel
theorem d_Ref_goes_198 : decode b_Ref_goes 198 = .ok (.iinc 3 1, 3) := by decide +kernel
theorem d_Ref_goes_201 : decode b_Ref_goes 201 = .ok (.goto (-41), 3) := by decide +kernel
theorem d_Ref_goes_204 : decode b_Ref_goes 204 = .ok (.iconst 0, 1) := by decide +kernel
theorem d_Ref_goes_205 : decode b_Ref_goes 205 = .ok (.istore_n 3, 1) := by decide +kernel
theorem d_Ref_goes_206 : decode b_Ref_goes 206 = .ok (.iload_n 3, 1) := by decide +kernel
theorem d_Ref_goes_207 : decode b_Ref_goes 207 = .ok (.iconst 3, 1) := by decide +kernel
theorem d_Ref_goes_208 : decode b_Ref_goes 208 = .ok (.if_icmp .ge 107, 3) := by decide +kernel
theorem d_Ref_goes_211 : decode b_Ref_goes 211 = .ok (.iconst 0, 1) := by decide +kernel
theorem d_Ref_goes_212 : decode b_Ref_goes 212 = .ok (.istore 4, 2) := by decide +kernel
theorem d_Ref_goes_214 : decode b_Ref_goes 214 = .ok (.iconst 0, 1) := by decide +kernel
theorem d_Ref_goes_215 : decode b_Ref_goes 215 = .ok (.istore 5, 2) := by decide +kernel
theorem d_Ref_goes_217 : decode b_Ref_goes 217 = .ok (.iload 5, 2) := by decide +kernel
theorem d_Ref_goes_219 : decode b_Ref_goes 219 = .ok (.aload_n 0, 1) := by decide +kernel
theorem d_Ref_goes_220 : decode b_Ref_goes 220 = .ok (.getfield 245, 3) := by decide +kernel
theorem d_Ref_goes_223 : decode b_Ref_goes 223 = .ok (.if_icmp .ge 70, 3) := by decide +kernel
theorem d_Ref_goes_226 : decode b_Ref_goes 226 = .ok (.aload_n 0, 1) := by decide +kernel
theorem d_Ref_goes_227 : decode b_Ref_goes 227 = .ok (.getfield 99, 3) := by decide +kernel
theorem d_Ref_goes_230 : decode b_Ref_goes 230 = .ok (.iload 5, 2) := by decide +kernel
theorem d_Ref_goes_232 : decode b_Ref_goes 232 = .ok (.iaload, 1) := by decide +kernel
theorem d_Ref_goes_233 : decode b_Ref_goes 233 = .ok (.istore 6, 2) := by decide +kernel
theorem d_Ref_goes_235 : decode b_Ref_goes 235 = .ok (.iload 4, 2) := by decide +kernel
theorem d_Ref_goes_237 : decode b_Ref_goes 237 = .ok (.aload_n 0, 1) := by decide +kernel
theorem d_Ref_goes_238 : decode b_Ref_goes 238 = .ok (.getfield 13, 3) := by decide +kernel
theorem d_Ref_goes_241 : decode b_Ref_goes 241 = .ok (.iload 6, 2) := by decide +kernel
theorem d_Ref_goes_243 : decode b_Ref_goes 243 = .ok (.iaload, 1) := by decide +kernel
theorem d_Ref_goes_244 : decode b_Ref_goes 244 = .ok (.iconst 3, 1) := by decide +kernel
theorem d_Ref_goes_245 : decode b_Ref_goes 245 = .ok (.if_icmp .ne 38, 3) := by decide +kernel
theorem d_Ref_goes_248 : decode b_Ref_goes 248 = .ok (.aload_n 0, 1) := by decide +kernel
theorem d_Ref_goes_249 : decode b_Ref_goes 249 = .ok (.getfield 16, 3) := by decide +kernel
theorem d_Ref_goes_252 : decode b_Ref_goes 252 = .ok (.iload 6, 2) := by decide +kernel
theorem d_Ref_goes_254 : decode b_Ref_goes 254 = .ok (.iaload, 1) := by decide +kernel
theorem d_Ref_goes_255 : decode b_Ref_goes 255 = .ok (.iload_n 3, 1) := by decide +kernel
theorem d_Ref_goes_256 : decode b_Ref_goes 256 = .ok (.if_icmp .ne 27, 3) := by decide +kernel
theorem d_Ref_goes_259 : decode b_Ref_goes 259 = .ok (.aload_n 0, 1) := by decide +kernel
theorem d_Ref_goes_260 : decode b_Ref_goes 260 = .ok (.getfield 84, 3) := by decide +kernel
theorem d_Ref_goes_263 : decode b_Ref_goes 263 = .ok (.iload 6, 2) := by decide +kernel
theorem d_Ref_goes_265 : decode b_Ref_goes 265 = .ok (.baload, 1) := by decide +kernel
theorem d_Ref_goes_266 : decode b_Ref_goes 266 = .ok (.ifCond .eq 17, 3) := by decide +kernel
theorem d_Ref_goes_269 : decode b_Ref_goes 269 = .ok (.aload_n 0, 1) := by decide +kernel
theorem d_Ref_goes_270 : decode b_Ref_goes 270 = .ok (.getfield 81, 3) := by decide +kernel
theorem d_Ref_goes_273 : decode b_Ref_goes 273 = .ok (.iload 6, 2) := by decide +kernel
theorem d_Ref_goes_275 : decode b_Ref_goes 275 = .ok (.iaload, 1) := by decide +kernel
theorem d_Ref_goes_276 : decode b_Ref_goes 276 = .ok (.ifCond .ge 7, 3) := by decide +kernel
theorem d_Ref_goes_279 : decode b_Ref_goes 279 = .ok (.iconst 1, 1) := by decide +kernel
theorem d_Ref_goes_280 : decode b_Ref_goes 280 = .ok (.goto 4, 3) := by decide +kernel
theorem d_Ref_goes_283 : decode b_Ref_goes 283 = .ok (.iconst 0, 1) := by decide +kernel
theorem d_Ref_goes_284 : decode b_Ref_goes 284 = .ok (.iadd, 1) := by decide +kernel
theorem d_Ref_goes_285 : decode b_Ref_goes 285 = .ok (.istore 4, 2) := by decide +kernel
theorem d_Ref_goes_287 : decode b_Ref_goes 287 = .ok (.iinc 5 1, 3) := by decide +kernel
theorem d_Ref_goes_290 : decode b_Ref_goes 290 = .ok (.goto (-73), 3) := by decide +kernel
theorem d_Ref_goes_293 : decode b_Ref_goes 293 = .ok (.iload_n 2, 1) := by decide +kernel
theorem d_Ref_goes_294 : decode b_Ref_goes 294 = .ok (.ifCond .ne 9, 3) := by decide +kernel
theorem d_Ref_goes_297 : decode b_Ref_goes 297 = .ok (.iload 4, 2) := by decide +kernel
theorem d_Ref_goes_299 : decode b_Ref_goes 299 = .ok (.iconst 1, 1) := by decide +kernel
theorem d_Ref_goes_300 : decode b_Ref_goes 300 = .ok (.if_icmp .le 7, 3) := by decide +kernel
theorem d_Ref_goes_303 : decode b_Ref_goes 303 = .ok (.iconst 1, 1) := by decide +kernel
theorem d_Ref_goes_304 : decode b_Ref_goes 304 = .ok (.goto 4, 3) := by decide +kernel
theorem d_Ref_goes_307 : decode b_Ref_goes 307 = .ok (.iconst 0, 1) := by decide +kernel
theorem d_Ref_goes_308 : decode b_Ref_goes 308 = .ok (.istore_n 2, 1) := by decide +kernel
theorem d_Ref_goes_309 : decode b_Ref_goes 309 = .ok (.iinc 3 1, 3) := by decide +kernel
theorem d_Ref_goes_312 : decode b_Ref_goes 312 = .ok (.goto (-106), 3) := by decide +kernel
theorem d_Ref_goes_315 : decode b_Ref_goes 315 = .ok (.iload_n 2, 1) := by decide +kernel
theorem d_Ref_goes_316 : decode b_Ref_goes 316 = .ok (.ifCond .ne 7, 3) := by decide +kernel
theorem d_Ref_goes_319 : decode b_Ref_goes 319 = .ok (.iconst 1, 1) := by decide +kernel
theorem d_Ref_goes_320 : decode b_Ref_goes 320 = .ok (.goto 4, 3) := by decide +kernel
theorem d_Ref_goes_323 : decode b_Ref_goes 323 = .ok (.iconst 0, 1) := by decide +kernel
theorem d_Ref_goes_324 : decode b_Ref_goes 324 = .ok (.ireturn, 1) := by decide +kernel
theorem d_Ref_act_0 : decode b_Ref_act 0 = .ok (.bipush 7, 2) := by decide +kernel
theorem d_Ref_act_2 : decode b_Ref_act 2 = .ok (.iload_n 1, 1) := by decide +kernel
theorem d_Ref_act_3 : decode b_Ref_act 3 = .ok (.imul, 1) := by decide +kernel
theorem d_Ref_act_4 : decode b_Ref_act 4 = .ok (.aload_n 0, 1) := by decide +kernel
theorem d_Ref_act_5 : decode b_Ref_act 5 = .ok (.getfield 93, 3) := by decide +kernel
theorem d_Ref_act_8 : decode b_Ref_act 8 = .ok (.iload_n 1, 1) := by decide +kernel
theorem d_Ref_act_9 : decode b_Ref_act 9 = .ok (.iaload, 1) := by decide +kernel
theorem d_Ref_act_10 : decode b_Ref_act 10 = .ok (.iadd, 1) := by decide +kernel
theorem d_Ref_act_11 : decode b_Ref_act 11 = .ok (.istore_n 2, 1) := by decide +kernel
theorem d_Ref_act_12 : decode b_Ref_act 12 = .ok (.aload_n 0, 1) := by decide +kernel
theorem d_Ref_act_13 : decode b_Ref_act 13 = .ok (.getfield 13, 3) := by decide +kernel
theorem d_Ref_act_16 : decode b_Ref_act 16 = .ok (.iload_n 2, 1) := by decide +kernel
theorem d_Ref_act_17 : decode b_Ref_act 17 = .ok (.iaload, 1) := by decide +kernel
theorem d_Ref_act_18 : decode b_Ref_act 18 = .ok (.istore_n 3, 1) := by decide +kernel
theorem d_Ref_act_19 : decode b_Ref_act 19 = .ok (.iconst 2, 1) := by decide +kernel
theorem d_Ref_act_20 : decode b_Ref_act 20 = .ok (.iload_n 1, 1) := by decide +kernel
theorem d_Ref_act_21 : decode b_Ref_act 21 = .ok (.imul, 1) := by decide +kernel
theorem d_Ref_act_22 : decode b_Ref_act 22 = .ok (.aload_n 0, 1) := by decide +kernel
theorem d_Ref_act_23 : decode b_Ref_act 23 = .ok (.getfield 19, 3) := by decide +kernel
theorem d_Ref_act_26 : decode b_Ref_act 26 = .ok (.iload_n 2, 1) := by decide +kernel
theorem d_Ref_act_27 : decode b_Ref_act 27 = .ok (.iaload, 1) := by decide +kernel
theorem d_Ref_act_28 : decode b_Ref_act 28 = .ok (.iadd, 1) := by decide +kernel
theorem d_Ref_act_29 : decode b_Ref_act 29 = .ok (.istore 4, 2) := by decide +kernel
theorem d_Ref_act_31 : decode b_Ref_act 31 = .ok (.iload_n 3, 1) := by decide +kernel
theorem d_Ref_act_32 : decode b_Ref_act 32 = .ok (.iconst 5, 1) := by decide +kernel
theorem d_Ref_act_33 : decode b_Ref_act 33 = .ok (.if_icmp .ne 77, 3) := by decide +kernel
theorem d_Ref_act_36 : decode b_Ref_act 36 = .ok (.aload_n 0, 1) := by decide +kernel
theorem d_Ref_act_37 : decode b_Ref_act 37 = .ok (.getfield 96, 3) := by decide +kernel
theorem d_Ref_act_40 : decode b_Ref_act 40 = .ok (.iload 4, 2) := by decide +kernel
theorem d_Ref_act_42 : decode b_Ref_act 42 = .ok (.iaload, 1) := by decide +kernel
theorem d_Ref_act_43 : decode b_Ref_act 43 = .ok (.aload_n 0, 1) := by decide +kernel
theorem d_Ref_act_44 : decode b_Ref_act 44 = .ok (.getfield 22, 3) := by decide +kernel
theorem d_Ref_act_47 : decode b_Ref_act 47 = .ok (.iload_n 2, 1) := by decide +kernel
theorem d_Ref_act_48 : decode b_Ref_act 48 = .ok (.iaload, 1) := by decide +kernel
theorem d_Ref_act_49 : decode b_Ref_act 49 = .ok (.if_icmp .ne 7, 3) := by decide +kernel
theorem d_Ref_act_52 : decode b_Ref_act 52 = .ok (.iconst 1, 1) := by decide +kernel
theorem d_Ref_act_53 : decode b_Ref_act 53 = .ok (.goto 11, 3) := by decide +kernel
theorem d_Ref_act_56 : decode b_Ref_act 56 = .ok (.iconst 1, 1) := by decide +kernel
theorem d_Ref_act_57 : decode b_Ref_act 57 = .ok (.aload_n 0, 1) := by decide +kernel
theorem d_Ref_act_58 : decode b_Ref_act 58 = .ok (.getfield 16, 3) := by decide +kernel
theorem d_Ref_act_61 : decode b_Ref_act 61 = .ok (.iload_n 2, 1) := by decide +kernel
theorem d_Ref_act_62 : decode b_Ref_act 62 = .ok (.iaload, 1) := by decide +kernel
theorem d_Ref_act_63 : decode b_Ref_act 63 = .ok (.iadd, 1) := by decide +kernel
theorem d_Ref_act_64 : decode b_Ref_act 64 = .ok (.istore 5, 2) := by decide +kernel
theorem d_Ref_act_66 : decode b_Ref_act 66 = .ok (.aload_n 0, 1) := by decide +kernel
theorem d_Ref_act_67 : decode b_Ref_act 67 = .ok (.getfield 93, 3) := by decide +kernel
theorem d_Ref_act_70 : decode b_Ref_act 70 = .ok (.iload_n 1, 1) := by decide +kernel
theorem d_Ref_act_71 : decode b_Ref_act 71 = .ok (.aload_n 0, 1) := by decide +kernel
theorem d_Ref_act_72 : decode b_Ref_act 72 = .ok (.getfield 93, 3) := by decide +kernel
theorem d_Ref_act_75 : decode b_Ref_act 75 = .ok (.iload_n 1, 1) := by decide +kernel
theorem d_Ref_act_76 : decode b_Ref_act 76 = .ok (.iaload, 1) := by decide +kernel
theorem d_Ref_act_77 : decode b_Ref_act 77 = .ok (.iload 5, 2) := by decide +kernel
theorem d_Ref_act_79 : decode b_Ref_act 79 = .ok (.iadd, 1) := by decide +kernel
theorem d_Ref_act_80 : decode b_Ref_act 80 = .ok (.aload_n 0, 1) := by decide +kernel
theorem d_Ref_act_81 : decode b_Ref_act 81 = .ok (.getfield 7, 3) := by decide +kernel
theorem d_Ref_act_84 : decode b_Ref_act 84 = .ok (.iload_n 1, 1) := by decide +kernel
theorem d_Ref_act_85 : decode b_Ref_act 85 = .ok (.iaload, 1) := by decide +kernel
theorem d_Ref_act_86 : decode b_Ref_act 86 = .ok (.if_icmp .le 12, 3) := by decide +kernel
theorem d_Ref_act_89 : decode b_Ref_act 89 = .ok (.aload_n 0, 1) := by decide +kernel
theorem d_Ref_act_90 : decode b_Ref_act 90 = .ok (.getfield 7, 3) := by decide +kernel
theorem d_Ref_act_93 : decode b_Ref_act 93 = .ok (.iload_n 1, 1) := by decide +kernel
theorem d_Ref_act_94 : decode b_Ref_act 94 = .ok (.iaload, 1) := by decide +kernel
theorem d_Ref_act_95 : decode b_Ref_act 95 = .ok (.goto 12, 3) := by decide +kernel
theorem d_Ref_act_98 : decode b_Ref_act 98 = .ok (.aload_n 0, 1) := by decide +kernel
theorem d_Ref_act_99 : decode b_Ref_act 99 = .ok (.getfield 93, 3) := by decide +kernel
theorem d_Ref_act_102 : decode b_Ref_act 102 = .ok (.iload_n 1, 1) := by decide +kernel
theorem d_Ref_act_103 : decode b_Ref_act 103 = .ok (.iaload, 1) := by decide +kernel
theorem d_Ref_act_104 : decode b_Ref_act 104 = .ok (.iload 5, 2) := by decide +kernel
theorem d_Ref_act_106 : decode b_Ref_act 106 = .ok (.iadd, 1) := by decide +kernel
theorem d_Ref_act_107 : decode b_Ref_act 107 = .ok (.iastore, 1) := by decide +kernel
theorem d_Ref_act_108 : decode b_Ref_act 108 = .ok (.iconst 1, 1) := by decide +kernel
theorem d_Ref_act_109 : decode b_Ref_act 109 = .ok (.ireturn, 1) := by decide +kernel
theorem d_Ref_act_110 : decode b_Ref_act 110 = .ok (.iconst 0, 1) := by decide +kernel
theorem d_Ref_act_111 : decode b_Ref_act 111 = .ok (.istore 5, 2) := by decide +kernel
theorem d_Ref_act_113 : decode b_Ref_act 113 = .ok (.iload_n 3, 1) := by decide +kernel
theorem d_Ref_act_114 : decode b_Ref_act 114 = .ok (.invokestatic 248, 3) := by decide +kernel
theorem d_Ref_act_117 : decode b_Ref_act 117 = .ok (.ifCond .eq 41, 3) := by decide +kernel
theorem d_Ref_act_120 : decode b_Ref_act 120 = .ok (.aload_n 0, 1) := by decide +kernel
theorem d_Ref_act_121 : decode b_Ref_act 121 = .ok (.getfield 81, 3) := by decide +kernel
theorem d_Ref_act_124 : decode b_Ref_act 124 = .ok (.iload_n 2, 1) := by decide +kernel
theorem d_Ref_act_125 : decode b_Ref_act 125 = .ok (.iaload, 1) := by decide +kernel
theorem d_Ref_act_126 : decode b_Ref_act 126 = .ok (.ifCond .lt 32, 3) := by decide +kernel
theorem d_Ref_act_129 : decode b_Ref_act 129 = .ok (.aload_n 0, 1) := by decide +kernel
theorem d_Ref_act_130 : decode b_Ref_act 130 = .ok (.getfield 87, 3) := by decide +kernel
theorem d_Ref_act_133 : decode b_Ref_act 133 = .ok (.aload_n 0, 1) := by decide +kernel
theorem d_Ref_act_134 : decode b_Ref_act 134 = .ok (.getfield 81, 3) := by decide +kernel
theorem d_Ref_act_137 : decode b_Ref_act 137 = .ok (.iload_n 2, 1) := by decide +kernel
theorem d_Ref_act_138 : decode b_Ref_act 138 = .ok (.iaload, 1) := by decide +kernel
theorem d_Ref_act_139 : decode b_Ref_act 139 = .ok (.baload, 1) := by decide +kernel
theorem d_Ref_act_140 : decode b_Ref_act 140 = .ok (.ifCond .ne 5, 3) := by decide +kernel
theorem d_Ref_act_143 : decode b_Ref_act 143 = .ok (.iconst 0, 1) := by decide +kernel
theorem d_Ref_act_144 : decode b_Ref_act 144 = .ok (.ireturn, 1) := by decide +kernel
theorem d_Ref_act_145 : decode b_Ref_act 145 = .ok (.aload_n 0, 1) := by decide +kernel
theorem d_Ref_act_146 : decode b_Ref_act 146 = .ok (.getfield 90, 3) := by decide +kernel
theorem d_Ref_act_149 : decode b_Ref_act 149 = .ok (.aload_n 0, 1) := by decide +kernel
theorem d_Ref_act_150 : decode b_Ref_act 150 = .ok (.getfield 81, 3) := by decide +kernel
theorem d_Ref_act_153 : decode b_Ref_act 153 = .ok (.iload_n 2, 1) := by decide +kernel
theorem d_Ref_act_154 : decode b_Ref_act 154 = .ok (.iaload, 1) := by decide +kernel
theorem d_Ref_act_155 : decode b_Ref_act 155 = .ok (.iaload, 1) := by decide +kernel
theorem d_Ref_act_156 : decode b_Ref_act 156 = .ok (.istore 5, 2) := by decide +kernel
theorem d_Ref_act_158 : decode b_Ref_act 158 = .ok (.aload_n 0, 1) := by decide +kernel
theorem d_Ref_act_159 : decode b_Ref_act 159 = .ok (.getfield 84, 3) := by decide +kernel
theorem d_Ref_act_162 : decode b_Ref_act 162 = .ok (.iload_n 2, 1) := by decide +kernel
theorem d_Ref_act_163 : decode b_Ref_act 163 = .ok (.iconst 1, 1) := by decide +kernel
theorem d_Ref_act_164 : decode b_Ref_act 164 = .ok (.bastore, 1) := by decide +kernel
theorem d_Ref_act_165 : decode b_Ref_act 165 = .ok (.aload_n 0, 1) := by decide +kernel
theorem d_Ref_act_166 : decode b_Ref_act 166 = .ok (.getfield 87, 3) := by decide +kernel
theorem d_Ref_act_169 : decode b_Ref_act 169 = .ok (.iload_n 2, 1) := by decide +kernel
theorem d_Ref_act_170 : decode b_Ref_act 170 = .ok (.iconst 1, 1) := by decide +kernel
theorem d_Ref_act_171 : decode b_Ref_act 171 = .ok (.bastore, 1) := by decide +kernel
theorem d_Ref_act_172 : decode b_Ref_act 172 = .ok (.aload_n 0, 1) := by decide +kernel
theorem d_Ref_act_173 : decode b_Ref_act 173 = .ok (.getfield 93, 3) := by decide +kernel
theorem d_Ref_act_176 : decode b_Ref_act 176 = .ok (.iload_n 1, 1) := by decide +kernel
theorem d_Ref_act_177 : decode b_Ref_act 177 = .ok (.dup2, 1) := by decide +kernel
theorem d_Ref_act_178 : decode b_Ref_act 178 = .ok (.iaload, 1) := by decide +kernel
theorem d_Ref_act_179 : decode b_Ref_act 179 = .ok (.iconst 1, 1) := by decide +kernel
theorem d_Ref_act_180 : decode b_Ref_act 180 = .ok (.iadd, 1) := by decide +kernel
theorem d_Ref_act_181 : decode b_Ref_act 181 = .ok (.iastore, 1) := by decide +kernel
theorem d_Ref_act_182 : decode b_Ref_act 182 = .ok (.iload_n 3, 1) := by decide +kernel
theorem d_Ref_act_183 : decode b_Ref_act 183 = .ok (.iconst 2, 1) := by decide +kernel
theorem d_Ref_act_184 : decode b_Ref_act 184 = .ok (.if_icmp .ne 26, 3) := by decide +kernel
theorem d_Ref_act_187 : decode b_Ref_act 187 = .ok (.aload_n 0, 1) := by decide +kernel
theorem d_Ref_act_188 : decode b_Ref_act 188 = .ok (.getfield 90, 3) := by decide +kernel
theorem d_Ref_act_191 : decode b_Ref_act 191 = .ok (.iload_n 2, 1) := by decide +kernel
theorem d_Ref_act_192 : decode b_Ref_act 192 = .ok (.aload_n 0, 1) := by decide +kernel
theorem d_Ref_act_193 : decode b_Ref_act 193 = .ok (.getfield 96, 3) := by decide +kernel
theorem d_Ref_act_196 : decode b_Ref_act 196 = .ok (.iload 4, 2) := by decide +kernel
theorem d_Ref_act_198 : decode b_Ref_act 198 = .ok (.iaload, 1) := by decide +kernel
theorem d_Ref_act_199 : decode b_Ref_act 199 = .ok (.aload_n 0, 1) := by decide +kernel
theorem d_Ref_act_200 : decode b_Ref_act 200 = .ok (.getfield 22, 3) := by decide +kernel
theorem d_Ref_act_203 : decode b_Ref_act 203 = .ok (.iload_n 2, 1) := by decide +kernel
theorem d_Ref_act_204 : decode b_Ref_act 204 = .ok (.iaload, 1) := by decide +kernel
theorem d_Ref_act_205 : decode b_Ref_act 205 = .ok (.iadd, 1) := by decide +kernel
theorem d_Ref_act_206 : decode b_Ref_act 206 = .ok (.iastore, 1) := by decide +kernel
theorem d_Ref_act_207 : decode b_Ref_act 207 = .ok (.goto 54, 3) := by decide +kernel
theorem d_Ref_act_210 : decode b_Ref_act 210 = .ok (.iload_n 3, 1) := by decide +kernel
theorem d_Ref_act_211 : decode b_Ref_act 211 = .ok (.iconst 1, 1) := by decide +kernel
theorem d_Ref_act_212 : decode b_Ref_act 212 = .ok (.if_icmp .ne 18, 3) := by decide +kernel
theorem d_Ref_act_215 : decode b_Ref_act 215 = .ok (.aload_n 0, 1) := by decide +kernel
theorem d_Ref_act_216 : decode b_Ref_act 216 = .ok (.getfield 90, 3) := by decide +kernel
theorem d_Ref_act_219 : decode b_Ref_act 219 = .ok (.iload_n 2, 1) := by decide +kernel
theorem d_Ref_act_220 : decode b_Ref_act 220 = .ok (.aload_n 0, 1) := by decide +kernel
theorem d_Ref_act_221 : decode b_Ref_act 221 = .ok (.getfield 22, 3) := by decide +kernel
theorem d_Ref_act_224 : decode b_Ref_act 224 = .ok (.iload_n 2, 1) := by decide +kernel
theorem d_Ref_act_225 : decode b_Ref_act 225 = .ok (.iaload, 1) := by decide +kernel
theorem d_Ref_act_226 : decode b_Ref_act 226 = .ok (.iastore, 1) := by decide +kernel
theorem d_Ref_act_227 : decode b_Ref_act 227 = .ok (.goto 34, 3) := by decide +kernel
theorem d_Ref_act_230 : decode b_Ref_act 230 = .ok (.iload_n 3, 1) := by decide +kernel
theorem d_Ref_act_231 : decode b_Ref_act 231 = .ok (.invokestatic 248, 3) := by decide +kernel
theorem d_Ref_act_234 : decode b_Ref_act 234 = .ok (.ifCond .eq 27, 3) := by decide +kernel
theorem d_Ref_act_237 : decode b_Ref_act 237 = .ok (.aload_n 0, 1) := by decide +kernel
theorem d_Ref_act_238 : decode b_Ref_act 238 = .ok (.getfield 96, 3) := by decide +kernel
theorem d_Ref_act_241 : decode b_Ref_act 241 = .ok (.iload 4, 2) := by decide +kernel
theorem d_Ref_act_243 : decode b_Ref_act 243 = .ok (.iload 5, 2) := by decide +kernel
theorem d_Ref_act_245 : decode b_Ref_act 245 = .ok (.iastore, 1) := by decide +kernel
theorem d_Ref_act_246 : decode b_Ref_act 246 = .ok (.aload_n 0, 1) := by decide +kernel
theorem d_Ref_act_247 : decode b_Ref_act 247 = .ok (.getfield 90, 3) := by decide +kernel
theorem d_Ref_act_250 : decode b_Ref_act 250 = .ok (.iload_n 2, 1) := by decide +kernel
theorem d_Ref_act_251 : decode b_Ref_act 251 = .ok (.iload 5, 2) := by decide +kernel
theorem d_Ref_act_253 : decode b_Ref_act 253 = .ok (.aload_n 0, 1) := by decide +kernel
theorem d_Ref_act_254 : decode b_Ref_act 254 = .ok (.getfield 22, 3) := by decide +kernel
theorem d_Ref_act_257 : decode b_Ref_act 257 = .ok (.iload_n 2, 1) := by decide +kernel
theorem d_Ref_act_258 : decode b_Ref_act 258 = .ok (.iaload, 1) := by decide +kernel
theorem d_Ref_act_259 : decode b_Ref_act 259 = .ok (.iadd, 1) := by decide +kernel
theorem d_Ref_act_260 : decode b_Ref_act 260 = .ok (.iastore, 1) := by decide +kernel
theorem d_Ref_act_261 : decode b_Ref_act 261 = .ok (.iconst 1, 1) := by decide +kernel
theorem d_Ref_act_262 : decode b_Ref_act 262 = .ok (.ireturn, 1) := by decide +kernel
theorem d_Ref_one_0 : decode b_Ref_one 0 = .ok (.aload_n 0, 1) := by decide +kernel
theorem d_Ref_one_1 : decode b_Ref_one 1 = .ok (.invokevirtual 266, 3) := by decide +kernel
theorem d_Ref_one_4 : decode b_Ref_one 4 = .ok (.ifCond .ne 4, 3) := by decide +kernel
theorem d_Ref_one_7 : decode b_Ref_one 7 = .ok (.return_, 1) := by decide +kernel
theorem d_Ref_one_8 : decode b_Ref_one 8 = .ok (.iconst 0, 1) := by decide +kernel
theorem d_Ref_one_9 : decode b_Ref_one 9 = .ok (.istore_n 1, 1) := by decide +kernel
theorem d_Ref_one_10 : decode b_Ref_one 10 = .ok (.iload_n 1, 1) := by decide +kernel
theorem d_Ref_one_11 : decode b_Ref_one 11 = .ok (.iconst 4, 1) := by decide +kernel
theorem d_Ref_one_12 : decode b_Ref_one 12 = .ok (.if_icmp .ge 16, 3) := by decide +kernel
theorem d_Ref_one_15 : decode b_Ref_one 15 = .ok (.aload_n 0, 1) := by decide +kernel
theorem d_Ref_one_16 : decode b_Ref_one 16 = .ok (.getfield 105, 3) := by decide +kernel
theorem d_Ref_one_19 : decode b_Ref_one 19 = .ok (.iload_n 1, 1) := by decide +kernel
theorem d_Ref_one_20 : decode b_Ref_one 20 = .ok (.iconst 0, 1) := by decide +kernel
theorem d_Ref_one_21 : decode b_Ref_one 21 = .ok (.iastore, 1) := by decide +kernel
theorem d_Ref_one_22 : decode b_Ref_one 22 = .ok (.iinc 1 1, 3) := by decide +kernel
theorem d_Ref_one_25 : decode b_Ref_one 25 = .ok (.goto (-15), 3) := by decide +kernel
theorem d_Ref_one_28 : decode b_Ref_one 28 = .ok (.aload_n 0, 1) := by decide +kernel
theorem d_Ref_one_29 : decode b_Ref_one 29 = .ok (.iconst 0, 1) := by decide +kernel
theorem d_Ref_one_30 : decode b_Ref_one 30 = .ok (.invokevirtual 269, 3) := by decide +kernel
theorem d_Ref_one_33 : decode b_Ref_one 33 = .ok (.return_, 1) := by decide +kernel
theorem d_Ref_isOf_0 : decode b_Ref_isOf 0 = .ok (.aload_n 0, 1) := by decide +kernel
theorem d_Ref_isOf_1 : decode b_Ref_isOf 1 = .ok (.getfield 84, 3) := by decide +kernel
theorem d_Ref_isOf_4 : decode b_Ref_isOf 4 = .ok (.iload_n 1, 1) := by decide +kernel
theorem d_Ref_isOf_5 : decode b_Ref_isOf 5 = .ok (.baload, 1) := by decide +kernel
theorem d_Ref_isOf_6 : decode b_Ref_isOf 6 = .ok (.ifCond .eq 55, 3) := by decide +kernel
theorem d_Ref_isOf_9 : decode b_Ref_isOf 9 = .ok (.iload_n 2, 1) := by decide +kernel
theorem d_Ref_isOf_10 : decode b_Ref_isOf 10 = .ok (.iconst 3, 1) := by decide +kernel
theorem d_Ref_isOf_11 : decode b_Ref_isOf 11 = .ok (.if_icmp .ge 28, 3) := by decide +kernel
theorem d_Ref_isOf_14 : decode b_Ref_isOf 14 = .ok (.aload_n 0, 1) := by decide +kernel
theorem d_Ref_isOf_15 : decode b_Ref_isOf 15 = .ok (.getfield 13, 3) := by decide +kernel
theorem d_Ref_isOf_18 : decode b_Ref_isOf 18 = .ok (.iload_n 1, 1) := by decide +kernel
theorem d_Ref_isOf_19 : decode b_Ref_isOf 19 = .ok (.iaload, 1) := by decide +kernel
theorem d_Ref_isOf_20 : decode b_Ref_isOf 20 = .ok (.invokestatic 260, 3) := by decide +kernel
theorem d_Ref_isOf_23 : decode b_Ref_isOf 23 = .ok (.ifCond .eq 38, 3) := by decide +kernel
theorem d_Ref_isOf_26 : decode b_Ref_isOf 26 = .ok (.aload_n 0, 1) := by decide +kernel
theorem d_Ref_isOf_27 : decode b_Ref_isOf 27 = .ok (.getfield 16, 3) := by decide +kernel
theorem d_Ref_isOf_30 : decode b_Ref_isOf 30 = .ok (.iload_n 1, 1) := by decide +kernel
theorem d_Ref_isOf_31 : decode b_Ref_isOf 31 = .ok (.iaload, 1) := by decide +kernel
theorem d_Ref_isOf_32 : decode b_Ref_isOf 32 = .ok (.iload_n 2, 1) := by decide +kernel
theorem d_Ref_isOf_33 : decode b_Ref_isOf 33 = .ok (.if_icmp .ne 28, 3) := by decide +kernel
theorem d_Ref_isOf_36 : decode b_Ref_isOf 36 = .ok (.goto 21, 3) := by decide +kernel
theorem d_Ref_isOf_39 : decode b_Ref_isOf 39 = .ok (.aload_n 0, 1) := by decide +kernel
theorem d_Ref_isOf_40 : decode b_Ref_isOf 40 = .ok (.getfield 242, 3) := by decide +kernel
theorem d_Ref_isOf_43 : decode b_Ref_isOf 43 = .ok (.iconst 3, 1) := by decide +kernel
theorem d_Ref_isOf_44 : decode b_Ref_isOf 44 = .ok (.if_icmp .ne 17, 3) := by decide +kernel
theorem d_Ref_isOf_47 : decode b_Ref_isOf 47 = .ok (.aload_n 0, 1) := by decide +kernel
theorem d_Ref_isOf_48 : decode b_Ref_isOf 48 = .ok (.getfield 13, 3) := by decide +kernel
theorem d_Ref_isOf_51 : decode b_Ref_isOf 51 = .ok (.iload_n 1, 1) := by decide +kernel
theorem d_Ref_isOf_52 : decode b_Ref_isOf 52 = .ok (.iaload, 1) := by decide +kernel
theorem d_Ref_isOf_53 : decode b_Ref_isOf 53 = .ok (.iconst 4, 1) := by decide +kernel
theorem d_Ref_isOf_54 : decode b_Ref_isOf 54 = .ok (.if_icmp .ne 7, 3) := by decide +kernel
theorem d_Ref_isOf_57 : decode b_Ref_isOf 57 = .ok (.iconst 1, 1) := by decide +kernel
theorem d_Ref_isOf_58 : decode b_Ref_isOf 58 = .ok (.goto 4, 3) := by decide +kernel
theorem d_Ref_isOf_61 : decode b_Ref_isOf 61 = .ok (.iconst 0, 1) := by decide +kernel
theorem d_Ref_isOf_62 : decode b_Ref_isOf 62 = .ok (.ireturn, 1) := by decide +kernel
theorem d_Ref_rows_0 : decode b_Ref_rows 0 = .ok (.iload_n 1, 1) := by decide +kernel
theorem d_Ref_rows_1 : decode b_Ref_rows 1 = .ok (.iconst 4, 1) := by decide +kernel
theorem d_Ref_rows_2 : decode b_Ref_rows 2 = .ok (.if_icmp .ne 8, 3) := by decide +kernel
theorem d_Ref_rows_5 : decode b_Ref_rows 5 = .ok (.aload_n 0, 1) := by decide +kernel
theorem d_Ref_rows_6 : decode b_Ref_rows 6 = .ok (.invokevirtual 272, 3) := by decide +kernel
theorem d_Ref_rows_9 : decode b_Ref_rows 9 = .ok (.return_, 1) := by decide +kernel
theorem d_Ref_rows_10 : decode b_Ref_rows 10 = .ok (.iconst 0, 1) := by decide +kernel
theorem d_Ref_rows_11 : decode b_Ref_rows 11 = .ok (.istore_n 2, 1) := by decide +kernel
theorem d_Ref_rows_12 : decode b_Ref_rows 12 = .ok (.iconst 0, 1) := by decide +kernel
theorem d_Ref_rows_13 : decode b_Ref_rows 13 = .ok (.istore_n 3, 1) := by decide +kernel
theorem d_Ref_rows_14 : decode b_Ref_rows 14 = .ok (.iload_n 3, 1) := by decide +kernel
theorem d_Ref_rows_15 : decode b_Ref_rows 15 = .ok (.aload_n 0, 1) := by decide +kernel
theorem d_Ref_rows_16 : decode b_Ref_rows 16 = .ok (.getfield 133, 3) := by decide +kernel
theorem d_Ref_rows_19 : decode b_Ref_rows 19 = .ok (.if_icmp .ge 112, 3) := by decide +kernel
theorem d_Ref_rows_22 : decode b_Ref_rows 22 = .ok (.bipush 7, 2) := by decide +kernel
theorem d_Ref_rows_24 : decode b_Ref_rows 24 = .ok (.iload_n 3, 1) := by decide +kernel
theorem d_Ref_rows_25 : decode b_Ref_rows 25 = .ok (.imul, 1) := by decide +kernel
theorem d_Ref_rows_26 : decode b_Ref_rows 26 = .ok (.istore 4, 2) := by decide +kernel
theorem d_Ref_rows_28 : decode b_Ref_rows 28 = .ok (.iload 4, 2) := by decide +kernel
theorem d_Ref_rows_30 : decode b_Ref_rows 30 = .ok (.bipush 7, 2) := by decide +kernel
theorem d_Ref_rows_32 : decode b_Ref_rows 32 = .ok (.iload_n 3, 1) := by decide +kernel
theorem d_Ref_rows_33 : decode b_Ref_rows 33 = .ok (.imul, 1) := by decide +kernel
theorem d_Ref_rows_34 : decode b_Ref_rows 34 = .ok (.aload_n 0, 1) := by decide +kernel
theorem d_Ref_rows_35 : decode b_Ref_rows 35 = .ok (.getfield 7, 3) := by decide +kernel
theorem d_Ref_rows_38 : decode b_Ref_rows 38 = .ok (.iload_n 3, 1) := by decide +kernel
theorem d_Ref_rows_39 : decode b_Ref_rows 39 = .ok (.iaload, 1) := by decide +kernel
theorem d_Ref_rows_40 : decode b_Ref_rows 40 = .ok (.iadd, 1) := by decide +kernel
theorem d_Ref_rows_41 : decode b_Ref_rows 41 = .ok (.if_icmp .ge 84, 3) := by decide +kernel
theorem d_Ref_rows_44 : decode b_Ref_rows 44 = .ok (.aload_n 0, 1) := by decide +kernel
theorem d_Ref_rows_45 : decode b_Ref_rows 45 = .ok (.iload 4, 2) := by decide +kernel
theorem d_Ref_rows_47 : decode b_Ref_rows 47 = .ok (.iload_n 1, 1) := by decide +kernel
theorem d_Ref_rows_48 : decode b_Ref_rows 48 = .ok (.invokevirtual 275, 3) := by decide +kernel
theorem d_Ref_rows_51 : decode b_Ref_rows 51 = .ok (.ifCond .eq 68, 3) := by decide +kernel
theorem d_Ref_rows_54 : decode b_Ref_rows 54 = .ok (.aload_n 0, 1) := by decide +kernel
theorem d_Ref_rows_55 : decode b_Ref_rows 55 = .ok (.iload 4, 2) := by decide +kernel
theorem d_Ref_rows_57 : decode b_Ref_rows 57 = .ok (.iload_n 1, 1) := by decide +kernel
theorem d_Ref_rows_58 : decode b_Ref_rows 58 = .ok (.invokevirtual 278, 3) := by decide +kernel
theorem d_Ref_rows_61 : decode b_Ref_rows 61 = .ok (.ifCond .ne 58, 3) := by decide +kernel
theorem d_Ref_rows_64 : decode b_Ref_rows 64 = .ok (.iconst 1, 1) := by decide +kernel
theorem d_Ref_rows_65 : decode b_Ref_rows 65 = .ok (.istore_n 2, 1) := by decide +kernel
theorem d_Ref_rows_66 : decode b_Ref_rows 66 = .ok (.aload_n 0, 1) := by decide +kernel
theorem d_Ref_rows_67 : decode b_Ref_rows 67 = .ok (.iload 4, 2) := by decide +kernel
theorem d_Ref_rows_69 : decode b_Ref_rows 69 = .ok (.iload_n 1, 1) := by decide +kernel
theorem d_Ref_rows_70 : decode b_Ref_rows 70 = .ok (.invokevirtual 281, 3) := by decide +kernel
theorem d_Ref_rows_73 : decode b_Ref_rows 73 = .ok (.ifCond .eq 46, 3) := by decide +kernel
theorem d_Ref_rows_76 : decode b_Ref_rows 76 = .ok (.aload_n 0, 1) := by decide +kernel
theorem d_Ref_rows_77 : decode b_Ref_rows 77 = .ok (.getfield 102, 3) := by decide +kernel
theorem d_Ref_rows_80 : decode b_Ref_rows 80 = .ok (.bipush 7, 2) := by decide +kernel
theorem d_Ref_rows_82 : decode b_Ref_rows 82 = .ok (.iload_n 1, 1) := by decide +kernel
theorem d_Ref_rows_83 : decode b_Ref_rows 83 = .ok (.imul, 1) := by decide +kernel
theorem d_Ref_rows_84 : decode b_Ref_rows 84 = .ok (.aload_n 0, 1) := by decide +kernel
theorem d_Ref_rows_85 : decode b_Ref_rows 85 = .ok (.getfield 105, 3) := by decide +kernel
theorem d_Ref_rows_88 : decode b_Ref_rows 88 = .ok (.iload_n 1, 1) := by decide +kernel
theorem d_Ref_rows_89 : decode b_Ref_rows 89 = .ok (.iaload, 1) := by decide +kernel
theorem d_Ref_rows_90 : decode b_Ref_rows 90 = .ok (.iadd, 1) := by decide +kernel
theorem d_Ref_rows_91 : decode b_Ref_rows 91 = .ok (.iload 4, 2) := by decide +kernel
theorem d_Ref_rows_93 : decode b_Ref_rows 93 = .ok (.iastore, 1) := by decide +kernel
theorem d_Ref_rows_94 : decode b_Ref_rows 94 = .ok (.aload_n 0, 1) := by decide +kernel
theorem d_Ref_rows_95 : decode b_Ref_rows 95 = .ok (.getfield 105, 3) := by decide +kernel
theorem d_Ref_rows_98 : decode b_Ref_rows 98 = .ok (.iload_n 1, 1) := by decide +kernel
theorem d_Ref_rows_99 : decode b_Ref_rows 99 = .ok (.dup2, 1) := by decide +kernel
theorem d_Ref_rows_100 : decode b_Ref_rows 100 = .ok (.iaload, 1) := by decide +kernel
theorem d_Ref_rows_101 : decode b_Ref_rows 101 = .ok (.iconst 1, 1) := by decide +kernel
theorem d_Ref_rows_102 : decode b_Ref_rows 102 = .ok (.iadd, 1) := by decide +kernel
theorem d_Ref_rows_103 : decode b_Ref_rows 103 = .ok (.iastore, 1) := by decide +kernel
theorem d_Ref_rows_104 : decode b_Ref_rows 104 = .ok (.aload_n 0, 1) := by decide +kernel
theorem d_Ref_rows_105 : decode b_Ref_rows 105 = .ok (.iload_n 1, 1) := by decide +kernel
theorem d_Ref_rows_106 : decode b_Ref_rows 106 = .ok (.invokevirtual 269, 3) := by decide +kernel
theorem d_Ref_rows_109 : decode b_Ref_rows 109 = .ok (.aload_n 0, 1) := by decide +kernel
theorem d_Ref_rows_110 : decode b_Ref_rows 110 = .ok (.getfield 105, 3) := by decide +kernel
theorem d_Ref_rows_113 : decode b_Ref_rows 113 = .ok (.iload_n 1, 1) := by decide +kernel
theorem d_Ref_rows_114 : decode b_Ref_rows 114 = .ok (.dup2, 1) := by decide +kernel
theorem d_Ref_rows_115 : decode b_Ref_rows 115 = .ok (.iaload, 1) := by decide +kernel
theorem d_Ref_rows_116 : decode b_Ref_rows 116 = .ok (.iconst 1, 1) := by decide +kernel
theorem d_Ref_rows_117 : decode b_Ref_rows 117 = .ok (.isub, 1) := by decide +kernel
theorem d_Ref_rows_118 : decode b_Ref_rows 118 = .ok (.iastore, 1) := by decide +kernel
theorem d_Ref_rows_119 : decode b_Ref_rows 119 = .ok (.iinc 4 1, 3) := by decide +kernel
theorem d_Ref_rows_122 : decode b_Ref_rows 122 = .ok (.goto (-94), 3) := by decide +kernel
theorem d_Ref_rows_125 : decode b_Ref_rows 125 = .ok (.iinc 3 1, 3) := by decide +kernel
theorem d_Ref_rows_128 : decode b_Ref_rows 128 = .ok (.goto (-114), 3) := by decide +kernel
theorem d_Ref_rows_131 : decode b_Ref_rows 131 = .ok (.iload_n 2, 1) := by decide +kernel
theorem d_Ref_rows_132 : decode b_Ref_rows 132 = .ok (.ifCond .ne 10, 3) := by decide +kernel
theorem d_Ref_rows_135 : decode b_Ref_rows 135 = .ok (.aload_n 0, 1) := by decide +kernel
theorem d_Ref_rows_136 : decode b_Ref_rows 136 = .ok (.iload_n 1, 1) := by decide +kernel
theorem d_Ref_rows_137 : decode b_Ref_rows 137 = .ok (.iconst 1, 1) := by decide +kernel
theorem d_Ref_rows_138 : decode b_Ref_rows 138 = .ok (.iadd, 1) := by decide +kernel
theorem d_Ref_rows_139 : decode b_Ref_rows 139 = .ok (.invokevirtual 269, 3) := by decide +kernel
theorem d_Ref_rows_142 : decode b_Ref_rows 142 = .ok (.return_, 1) := by decide +kernel
theorem d_Ref_isInRow_0 : decode b_Ref_isInRow 0 = .ok (.bipush 7, 2) := by decide +kernel
theorem d_Ref_isInRow_2 : decode b_Ref_isInRow 2 = .ok (.iload_n 2, 1) := by decide +kernel
theorem d_Ref_isInRow_3 : decode b_Ref_isInRow 3 = .ok (.imul, 1) := by decide +kernel
theorem d_Ref_isInRow_4 : decode b_Ref_isInRow 4 = .ok (.istore_n 3, 1) := by decide +kernel
theorem d_Ref_isInRow_5 : decode b_Ref_isInRow 5 = .ok (.iload_n 3, 1) := by decide +kernel
theorem d_Ref_isInRow_6 : decode b_Ref_isInRow 6 = .ok (.bipush 7, 2) := by decide +kernel
theorem d_Ref_isInRow_8 : decode b_Ref_isInRow 8 = .ok (.iload_n 2, 1) := by decide +kernel
theorem d_Ref_isInRow_9 : decode b_Ref_isInRow 9 = .ok (.imul, 1) := by decide +kernel
theorem d_Ref_isInRow_10 : decode b_Ref_isInRow 10 = .ok (.aload_n 0, 1) := by decide +kernel
theorem d_Ref_isInRow_11 : decode b_Ref_isInRow 11 = .ok (.getfield 105, 3) := by decide +kernel
theorem d_Ref_isInRow_14 : decode b_Ref_isInRow 14 = .ok (.iload_n 2, 1) := by decide +kernel
theorem d_Ref_isInRow_15 : decode b_Ref_isInRow 15 = .ok (.iaload, 1) := by decide +kernel
theorem d_Ref_isInRow_16 : decode b_Ref_isInRow 16 = .ok (.iadd, 1) := by decide +kernel
theorem d_Ref_isInRow_17 : decode b_Ref_isInRow 17 = .ok (.if_icmp .ge 21, 3) := by decide +kernel
theorem d_Ref_isInRow_20 : decode b_Ref_isInRow 20 = .ok (.aload_n 0, 1) := by decide +kernel
theorem d_Ref_isInRow_21 : decode b_Ref_isInRow 21 = .ok (.getfield 102, 3) := by decide +kernel
theorem d_Ref_isInRow_24 : decode b_Ref_isInRow 24 = .ok (.iload_n 3, 1) := by decide +kernel
theorem d_Ref_isInRow_25 : decode b_Ref_isInRow 25 = .ok (.iaload, 1) := by decide +kernel
theorem d_Ref_isInRow_26 : decode b_Ref_isInRow 26 = .ok (.iload_n 1, 1) := by decide +kernel
theorem d_Ref_isInRow_27 : decode b_Ref_isInRow 27 = .ok (.if_icmp .ne 5, 3) := by decide +kernel
theorem d_Ref_isInRow_30 : decode b_Ref_isInRow 30 = .ok (.iconst 1, 1) := by decide +kernel
theorem d_Ref_isInRow_31 : decode b_Ref_isInRow 31 = .ok (.ireturn, 1) := by decide +kernel
theorem d_Ref_isInRow_32 : decode b_Ref_isInRow 32 = .ok (.iinc 3 1, 3) := by decide +kernel
theorem d_Ref_isInRow_35 : decode b_Ref_isInRow 35 = .ok (.goto (-30), 3) := by decide +kernel
theorem d_Ref_isInRow_38 : decode b_Ref_isInRow 38 = .ok (.iconst 0, 1) := by decide +kernel
theorem d_Ref_isInRow_39 : decode b_Ref_isInRow 39 = .ok (.ireturn, 1) := by decide +kernel
theorem d_Ref_mayFollow_0 : decode b_Ref_mayFollow 0 = .ok (.iload_n 2, 1) := by decide +kernel
theorem d_Ref_mayFollow_1 : decode b_Ref_mayFollow 1 = .ok (.iconst 3, 1) := by decide +kernel
theorem d_Ref_mayFollow_2 : decode b_Ref_mayFollow 2 = .ok (.if_icmp .ne 5, 3) := by decide +kernel
theorem d_Ref_mayFollow_5 : decode b_Ref_mayFollow 5 = .ok (.iconst 1, 1) := by decide +kernel
theorem d_Ref_mayFollow_6 : decode b_Ref_mayFollow 6 = .ok (.ireturn, 1) := by decide +kernel
theorem d_Ref_mayFollow_7 : decode b_Ref_mayFollow 7 = .ok (.aload_n 0, 1) := by decide +kernel
theorem d_Ref_mayFollow_8 : decode b_Ref_mayFollow 8 = .ok (.getfield 105, 3) := by decide +kernel
theorem d_Ref_mayFollow_11 : decode b_Ref_mayFollow 11 = .ok (.iload_n 2, 1) := by decide +kernel
theorem d_Ref_mayFollow_12 : decode b_Ref_mayFollow 12 = .ok (.iaload, 1) := by decide +kernel
theorem d_Ref_mayFollow_13 : decode b_Ref_mayFollow 13 = .ok (.ifCond .ne 7, 3) := by decide +kernel
theorem d_Ref_mayFollow_16 : decode b_Ref_mayFollow 16 = .ok (.iconst (-1), 1) := by decide +kernel
theorem d_Ref_mayFollow_17 : decode b_Ref_mayFollow 17 = .ok (.goto 21, 3) := by decide +kernel
theorem d_Ref_mayFollow_20 : decode b_Ref_mayFollow 20 = .ok (.aload_n 0, 1) := by decide +kernel
theorem d_Ref_mayFollow_21 : decode b_Ref_mayFollow 21 = .ok (.getfield 102, 3) := by decide +kernel
theorem d_Ref_mayFollow_24 : decode b_Ref_mayFollow 24 = .ok (.bipush 7, 2) := by decide +kernel
theorem d_Ref_mayFollow_26 : decode b_Ref_mayFollow 26 = .ok (.iload_n 2, 1) := by decide +kernel
theorem d_Ref_mayFollow_27 : decode b_Ref_mayFollow 27 = .ok (.imul, 1) := by decide +kernel
theorem d_Ref_mayFollow_28 : decode b_Ref_mayFollow 28 = .ok (.aload_n 0, 1) := by decide +kernel
theorem d_Ref_mayFollow_29 : decode b_Ref_mayFollow 29 = .ok (.getfield 105, 3) := by decide +kernel
theorem d_Ref_mayFollow_32 : decode b_Ref_mayFollow 32 = .ok (.iload_n 2, 1) := by decide +kernel
theorem d_Ref_mayFollow_33 : decode b_Ref_mayFollow 33 = .ok (.iaload, 1) := by decide +kernel
theorem d_Ref_mayFollow_34 : decode b_Ref_mayFollow 34 = .ok (.iadd, 1) := by decide +kernel
theorem d_Ref_mayFollow_35 : decode b_Ref_mayFollow 35 = .ok (.iconst 1, 1) := by decide +kernel
theorem d_Ref_mayFollow_36 : decode b_Ref_mayFollow 36 = .ok (.isub, 1) := by decide +kernel
theorem d_Ref_mayFollow_37 : decode b_Ref_mayFollow 37 = .ok (.iaload, 1) := by decide +kernel
theorem d_Ref_mayFollow_38 : decode b_Ref_mayFollow 38 = .ok (.istore_n 3, 1) := by decide +kernel
theorem d_Ref_mayFollow_39 : decode b_Ref_mayFollow 39 = .ok (.aload_n 0, 1) := by decide +kernel
theorem d_Ref_mayFollow_40 : decode b_Ref_mayFollow 40 = .ok (.getfield 13, 3) := by decide +kernel
theorem d_Ref_mayFollow_43 : decode b_Ref_mayFollow 43 = .ok (.iload_n 1, 1) := by decide +kernel
theorem d_Ref_mayFollow_44 : decode b_Ref_mayFollow 44 = .ok (.iaload, 1) := by decide +kernel
theorem d_Ref_mayFollow_45 : decode b_Ref_mayFollow 45 = .ok (.iconst 3, 1) := by decide +kernel
theorem d_Ref_mayFollow_46 : decode b_Ref_mayFollow 46 = .ok (.if_icmp .ne 19, 3) := by decide +kernel
theorem d_Ref_mayFollow_49 : decode b_Ref_mayFollow 49 = .ok (.aload_n 0, 1) := by decide +kernel
theorem d_Ref_mayFollow_50 : decode b_Ref_mayFollow 50 = .ok (.getfield 81, 3) := by decide +kernel
theorem d_Ref_mayFollow_53 : decode b_Ref_mayFollow 53 = .ok (.iload_n 1, 1) := by decide +kernel
theorem d_Ref_mayFollow_54 : decode b_Ref_mayFollow 54 = .ok (.iaload, 1) := by decide +kernel
theorem d_Ref_mayFollow_55 : decode b_Ref_mayFollow 55 = .ok (.iload_n 3, 1) := by decide +kernel
theorem d_Ref_mayFollow_56 : decode b_Ref_mayFollow 56 = .ok (.if_icmp .ne 7, 3) := by decide +kernel
theorem d_Ref_mayFollow_59 : decode b_Ref_mayFollow 59 = .ok (.iconst 1, 1) := by decide +kernel
theorem d_Ref_mayFollow_60 : decode b_Ref_mayFollow 60 = .ok (.goto 4, 3) := by decide +kernel
theorem d_Ref_mayFollow_63 : decode b_Ref_mayFollow 63 = .ok (.iconst 0, 1) := by decide +kernel
theorem d_Ref_mayFollow_64 : decode b_Ref_mayFollow 64 = .ok (.ireturn, 1) := by decide +kernel
theorem d_Ref_mayFollow_65 : decode b_Ref_mayFollow 65 = .ok (.iconst 0, 1) := by decide +kernel
theorem d_Ref_mayFollow_66 : decode b_Ref_mayFollow 66 = .ok (.istore 4, 2) := by decide +kernel
theorem d_Ref_mayFollow_68 : decode b_Ref_mayFollow 68 = .ok (.iload 4, 2) := by decide +kernel
theorem d_Ref_mayFollow_70 : decode b_Ref_mayFollow 70 = .ok (.aload_n 0, 1) := by decide +kernel
theorem d_Ref_mayFollow_71 : decode b_Ref_mayFollow 71 = .ok (.getfield 245, 3) := by decide +kernel
theorem d_Ref_mayFollow_74 : decode b_Ref_mayFollow 74 = .ok (.if_icmp .ge 73, 3) := by decide +kernel
theorem d_Ref_mayFollow_77 : decode b_Ref_mayFollow 77 = .ok (.aload_n 0, 1) := by decide +kernel
theorem d_Ref_mayFollow_78 : decode b_Ref_mayFollow 78 = .ok (.getfield 99, 3) := by decide +kernel
theorem d_Ref_mayFollow_81 : decode b_Ref_mayFollow 81 = .ok (.iload 4, 2) := by decide +kernel
theorem d_Ref_mayFollow_83 : decode b_Ref_mayFollow 83 = .ok (.iaload, 1) := by decide +kernel
theorem d_Ref_mayFollow_84 : decode b_Ref_mayFollow 84 = .ok (.istore 5, 2) := by decide +kernel
theorem d_Ref_mayFollow_86 : decode b_Ref_mayFollow 86 = .ok (.aload_n 0, 1) := by decide +kernel
theorem d_Ref_mayFollow_87 : decode b_Ref_mayFollow 87 = .ok (.getfield 13, 3) := by decide +kernel
theorem d_Ref_mayFollow_90 : decode b_Ref_mayFollow 90 = .ok (.iload 5, 2) := by decide +kernel
theorem d_Ref_mayFollow_92 : decode b_Ref_mayFollow 92 = .ok (.iaload, 1) := by decide +kernel
theorem d_Ref_mayFollow_93 : decode b_Ref_mayFollow 93 = .ok (.iconst 3, 1) := by decide +kernel
theorem d_Ref_mayFollow_94 : decode b_Ref_mayFollow 94 = .ok (.if_icmp .ne 47, 3) := by decide +kernel
theorem d_Ref_mayFollow_97 : decode b_Ref_mayFollow 97 = .ok (.aload_n 0, 1) := by decide +kernel
theorem d_Ref_mayFollow_98 : decode b_Ref_mayFollow 98 = .ok (.getfield 84, 3) := by decide +kernel
theorem d_Ref_mayFollow_101 : decode b_Ref_mayFollow 101 = .ok (.iload 5, 2) := by decide +kernel
theorem d_Ref_mayFollow_103 : decode b_Ref_mayFollow 103 = .ok (.baload, 1) := by decide +kernel
theorem d_Ref_mayFollow_104 : decode b_Ref_mayFollow 104 = .ok (.ifCond .eq 37, 3) := by decide +kernel
theorem d_Ref_mayFollow_107 : decode b_Ref_mayFollow 107 = .ok (.aload_n 0, 1) := by decide +kernel
theorem d_Ref_mayFollow_108 : decode b_Ref_mayFollow 108 = .ok (.getfield 16, 3) := by decide +kernel
theorem d_Ref_mayFollow_111 : decode b_Ref_mayFollow 111 = .ok (.iload 5, 2) := by decide +kernel
theorem d_Ref_mayFollow_113 : decode b_Ref_mayFollow 113 = .ok (.iaload, 1) := by decide +kernel
theorem d_Ref_mayFollow_114 : decode b_Ref_mayFollow 114 = .ok (.iload_n 2, 1) := by decide +kernel
theorem d_Ref_mayFollow_115 : decode b_Ref_mayFollow 115 = .ok (.if_icmp .ne 26, 3) := by decide +kernel
theorem d_Ref_mayFollow_118 : decode b_Ref_mayFollow 118 = .ok (.aload_n 0, 1) := by decide +kernel
theorem d_Ref_mayFollow_119 : decode b_Ref_mayFollow 119 = .ok (.getfield 81, 3) := by decide +kernel
theorem d_Ref_mayFollow_122 : decode b_Ref_mayFollow 122 = .ok (.iload 5, 2) := by decide +kernel
theorem d_Ref_mayFollow_124 : decode b_Ref_mayFollow 124 = .ok (.iaload, 1) := by decide +kernel
theorem d_Ref_mayFollow_125 : decode b_Ref_mayFollow 125 = .ok (.iload_n 3, 1) := by decide +kernel
theorem d_Ref_mayFollow_126 : decode b_Ref_mayFollow 126 = .ok (.if_icmp .ne 15, 3) := by decide +kernel
theorem d_Ref_mayFollow_129 : decode b_Ref_mayFollow 129 = .ok (.aload_n 0, 1) := by decide +kernel
theorem d_Ref_mayFollow_130 : decode b_Ref_mayFollow 130 = .ok (.iload 5, 2) := by decide +kernel
theorem d_Ref_mayFollow_132 : decode b_Ref_mayFollow 132 = .ok (.iload_n 2, 1) := by decide +kernel
theorem d_Ref_mayFollow_133 : decode b_Ref_mayFollow 133 = .ok (.invokevirtual 278, 3) := by decide +kernel
theorem d_Ref_mayFollow_136 : decode b_Ref_mayFollow 136 = .ok (.ifCond .ne 5, 3) := by decide +kernel
theorem d_Ref_mayFollow_139 : decode b_Ref_mayFollow 139 = .ok (.iconst 0, 1) := by decide +kernel
theorem d_Ref_mayFollow_140 : decode b_Ref_mayFollow 140 = .ok (.ireturn, 1) := by decide +kernel
theorem d_Ref_mayFollow_141 : decode b_Ref_mayFollow 141 = .ok (.iinc 4 1, 3) := by decide +kernel
theorem d_Ref_mayFollow_144 : decode b_Ref_mayFollow 144 = .ok (.goto (-76), 3) := by decide +kernel
theorem d_Ref_mayFollow_147 : decode b_Ref_mayFollow 147 = .ok (.iconst 1, 1) := by decide +kernel
theorem d_Ref_mayFollow_148 : decode b_Ref_mayFollow 148 = .ok (.ireturn, 1) := by decide +kernel
theorem d_Ref_pair_0 : decode b_Ref_pair 0 = .ok (.aload_n 1, 1) := by decide +kernel
theorem d_Ref_pair_1 : decode b_Ref_pair 1 = .ok (.aload_n 0, 1) := by decide +kernel
theorem d_Ref_pair_2 : decode b_Ref_pair 2 = .ok (.getfield 108, 3) := by decide +kernel
theorem d_Ref_pair_5 : decode b_Ref_pair 5 = .ok (.iload_n 2, 1) := by decide +kernel
theorem d_Ref_pair_6 : decode b_Ref_pair 6 = .ok (.iaload, 1) := by decide +kernel
theorem d_Ref_pair_7 : decode b_Ref_pair 7 = .ok (.dup2, 1) := by decide +kernel
theorem d_Ref_pair_8 : decode b_Ref_pair 8 = .ok (.iaload, 1) := by decide +kernel
theorem d_Ref_pair_9 : decode b_Ref_pair 9 = .ok (.iconst 1, 1) := by decide +kernel
theorem d_Ref_pair_10 : decode b_Ref_pair 10 = .ok (.aload_n 0, 1) := by decide +kernel
theorem d_Ref_pair_11 : decode b_Ref_pair 11 = .ok (.getfield 108, 3) := by decide +kernel
theorem d_Ref_pair_14 : decode b_Ref_pair 14 = .ok (.iload_n 3, 1) := by decide +kernel
theorem d_Ref_pair_15 : decode b_Ref_pair 15 = .ok (.iaload, 1) := by decide +kernel
theorem d_Ref_pair_16 : decode b_Ref_pair 16 = .ok (.ishl, 1) := by decide +kernel
theorem d_Ref_pair_17 : decode b_Ref_pair 17 = .ok (.ior, 1) := by decide +kernel
theorem d_Ref_pair_18 : decode b_Ref_pair 18 = .ok (.iastore, 1) := by decide +kernel
theorem d_Ref_pair_19 : decode b_Ref_pair 19 = .ok (.return_, 1) := by decide +kernel
theorem d_Ref_whole_0 : decode b_Ref_whole 0 = .ok (.aload_n 0, 1) := by decide +kernel
theorem d_Ref_whole_1 : decode b_Ref_whole 1 = .ok (.iconst 0, 1) := by decide +kernel
theorem d_Ref_whole_2 : decode b_Ref_whole 2 = .ok (.putfield 284, 3) := by decide +kernel
theorem d_Ref_whole_5 : decode b_Ref_whole 5 = .ok (.iconst 0, 1) := by decide +kernel
theorem d_Ref_whole_6 : decode b_Ref_whole 6 = .ok (.istore_n 1, 1) := by decide +kernel
theorem d_Ref_whole_7 : decode b_Ref_whole 7 = .ok (.iload_n 1, 1) := by decide +kernel
theorem d_Ref_whole_8 : decode b_Ref_whole 8 = .ok (.aload_n 0, 1) := by decide +kernel
theorem d_Ref_whole_9 : decode b_Ref_whole 9 = .ok (.getfield 133, 3) := by decide +kernel
theorem d_Ref_whole_12 : decode b_Ref_whole 12 = .ok (.if_icmp .ge 104, 3) := by decide +kernel
theorem d_Ref_whole_15 : decode b_Ref_whole 15 = .ok (.bipush 7, 2) := by decide +kernel
theorem d_Ref_whole_17 : decode b_Ref_whole 17 = .ok (.iload_n 1, 1) := by decide +kernel
theorem d_Ref_whole_18 : decode b_Ref_whole 18 = .ok (.imul, 1) := by decide +kernel
theorem d_Ref_whole_19 : decode b_Ref_whole 19 = .ok (.istore_n 2, 1) := by decide +kernel
theorem d_Ref_whole_20 : decode b_Ref_whole 20 = .ok (.iload_n 2, 1) := by decide +kernel
theorem d_Ref_whole_21 : decode b_Ref_whole 21 = .ok (.bipush 7, 2) := by decide +kernel
theorem d_Ref_whole_23 : decode b_Ref_whole 23 = .ok (.iload_n 1, 1) := by decide +kernel
theorem d_Ref_whole_24 : decode b_Ref_whole 24 = .ok (.imul, 1) := by decide +kernel
theorem d_Ref_whole_25 : decode b_Ref_whole 25 = .ok (.aload_n 0, 1) := by decide +kernel
theorem d_Ref_whole_26 : decode b_Ref_whole 26 = .ok (.getfield 7, 3) := by decide +kernel
theorem d_Ref_whole_29 : decode b_Ref_whole 29 = .ok (.iload_n 1, 1) := by decide +kernel
theorem d_Ref_whole_30 : decode b_Ref_whole 30 = .ok (.iaload, 1) := by decide +kernel
theorem d_Ref_whole_31 : decode b_Ref_whole 31 = .ok (.iadd, 1) := by decide +kernel
theorem d_Ref_whole_32 : decode b_Ref_whole 32 = .ok (.if_icmp .ge 78, 3) := by decide +kernel
theorem d_Ref_whole_35 : decode b_Ref_whole 35 = .ok (.aload_n 0, 1) := by decide +kernel
theorem d_Ref_whole_36 : decode b_Ref_whole 36 = .ok (.getfield 84, 3) := by decide +kernel
theorem d_Ref_whole_39 : decode b_Ref_whole 39 = .ok (.iload_n 2, 1) := by decide +kernel
theorem d_Ref_whole_40 : decode b_Ref_whole 40 = .ok (.baload, 1) := by decide +kernel
theorem d_Ref_whole_41 : decode b_Ref_whole 41 = .ok (.ifCond .eq 63, 3) := by decide +kernel
theorem d_Ref_whole_44 : decode b_Ref_whole 44 = .ok (.aload_n 0, 1) := by decide +kernel
theorem d_Ref_whole_45 : decode b_Ref_whole 45 = .ok (.getfield 108, 3) := by decide +kernel
theorem d_Ref_whole_48 : decode b_Ref_whole 48 = .ok (.iload_n 2, 1) := by decide +kernel
theorem d_Ref_whole_49 : decode b_Ref_whole 49 = .ok (.aload_n 0, 1) := by decide +kernel
theorem d_Ref_whole_50 : decode b_Ref_whole 50 = .ok (.getfield 284, 3) := by decide +kernel
theorem d_Ref_whole_53 : decode b_Ref_whole 53 = .ok (.iastore, 1) := by decide +kernel
theorem d_Ref_whole_54 : decode b_Ref_whole 54 = .ok (.aload_n 0, 1) := by decide +kernel
theorem d_Ref_whole_55 : decode b_Ref_whole 55 = .ok (.getfield 111, 3) := by decide +kernel
theorem d_Ref_whole_58 : decode b_Ref_whole 58 = .ok (.aload_n 0, 1) := by decide +kernel
theorem d_Ref_whole_59 : decode b_Ref_whole 59 = .ok (.getfield 284, 3) := by decide +kernel
theorem d_Ref_whole_62 : decode b_Ref_whole 62 = .ok (.iconst 0, 1) := by decide +kernel
theorem d_Ref_whole_63 : decode b_Ref_whole 63 = .ok (.iastore, 1) := by decide +kernel
theorem d_Ref_whole_64 : decode b_Ref_whole 64 = .ok (.aload_n 0, 1) := by decide +kernel
theorem d_Ref_whole_65 : decode b_Ref_whole 65 = .ok (.getfield 114, 3) := by decide +kernel
theorem d_Ref_whole_68 : decode b_Ref_whole 68 = .ok (.aload_n 0, 1) := by decide +kernel
theorem d_Ref_whole_69 : decode b_Ref_whole 69 = .ok (.getfield 284, 3) := by decide +kernel
theorem d_Ref_whole_72 : decode b_Ref_whole 72 = .ok (.iconst 0, 1) := by decide +kernel
theorem d_Ref_whole_73 : decode b_Ref_whole 73 = .ok (.iastore, 1) := by decide +kernel
theorem d_Ref_whole_74 : decode b_Ref_whole 74 = .ok (.aload_n 0, 1) := by decide +kernel
theorem d_Ref_whole_75 : decode b_Ref_whole 75 = .ok (.getfield 117, 3) := by decide +kernel
theorem d_Ref_whole_78 : decode b_Ref_whole 78 = .ok (.aload_n 0, 1) := by decide +kernel
theorem d_Ref_whole_79 : decode b_Ref_whole 79 = .ok (.getfield 284, 3) := by decide +kernel
theorem d_Ref_whole_82 : decode b_Ref_whole 82 = .ok (.iconst 0, 1) := by decide +kernel
theorem d_Ref_whole_83 : decode b_Ref_whole 83 = .ok (.iastore, 1) := by decide +kernel
theorem d_Ref_whole_84 : decode b_Ref_whole 84 = .ok (.aload_n 0, 1) := by decide +kernel
theorem d_Ref_whole_85 : decode b_Ref_whole 85 = .ok (.getfield 120, 3) := by decide +kernel
theorem d_Ref_whole_88 : decode b_Ref_whole 88 = .ok (.aload_n 0, 1) := by decide +kernel
theorem d_Ref_whole_89 : decode b_Ref_whole 89 = .ok (.getfield 284, 3) := by decide +kernel
theorem d_Ref_whole_92 : decode b_Ref_whole 92 = .ok (.iconst 0, 1) := by decide +kernel
theorem d_Ref_whole_93 : decode b_Ref_whole 93 = .ok (.iastore, 1) := by decide +kernel
theorem d_Ref_whole_94 : decode b_Ref_whole 94 = .ok (.aload_n 0, 1) := by decide +kernel
theorem d_Ref_whole_95 : decode b_Ref_whole 95 = .ok (.dup, 1) := by decide +kernel
theorem d_Ref_whole_96 : decode b_Ref_whole 96 = .ok (.getfield 284, 3) := by decide +kernel
theorem d_Ref_whole_99 : decode b_Ref_whole 99 = .ok (.iconst 1, 1) := by decide +kernel
theorem d_Ref_whole_100 : decode b_Ref_whole 100 = .ok (.iadd, 1) := by decide +kernel
theorem d_Ref_whole_101 : decode b_Ref_whole 101 = .ok (.putfield 284, 3) := by decide +kernel
theorem d_Ref_whole_104 : decode b_Ref_whole 104 = .ok (.iinc 2 1, 3) := by decide +kernel
theorem d_Ref_whole_107 : decode b_Ref_whole 107 = .ok (.goto (-87), 3) := by decide +kernel
theorem d_Ref_whole_110 : decode b_Ref_whole 110 = .ok (.iinc 1 1, 3) := by decide +kernel
theorem d_Ref_whole_113 : decode b_Ref_whole 113 = .ok (.goto (-106), 3) := by decide +kernel
theorem d_Ref_whole_116 : decode b_Ref_whole 116 = .ok (.aload_n 0, 1) := by decide +kernel
theorem d_Ref_whole_117 : decode b_Ref_whole 117 = .ok (.invokevirtual 287, 3) := by decide +kernel
theorem d_Ref_whole_120 : decode b_Ref_whole 120 = .ok (.aload_n 0, 1) := by decide +kernel
theorem d_Ref_whole_121 : decode b_Ref_whole 121 = .ok (.invokevirtual 290, 3) := by decide +kernel
theorem d_Ref_whole_124 : decode b_Ref_whole 124 = .ok (.ifCond .ne 4, 3) := by decide +kernel
theorem d_Ref_whole_127 : decode b_Ref_whole 127 = .ok (.return_, 1) := by decide +kernel
theorem d_Ref_whole_128 : decode b_Ref_whole 128 = .ok (.aload_n 0, 1) := by decide +kernel
theorem d_Ref_whole_129 : decode b_Ref_whole 129 = .ok (.getfield 47, 3) := by decide +kernel
theorem d_Ref_whole_132 : decode b_Ref_whole 132 = .ok (.aload_n 0, 1) := by decide +kernel
theorem d_Ref_whole_133 : decode b_Ref_whole 133 = .ok (.getfield 242, 3) := by decide +kernel
theorem d_Ref_whole_136 : decode b_Ref_whole 136 = .ok (.dup2, 1) := by decide +kernel
theorem d_Ref_whole_137 : decode b_Ref_whole 137 = .ok (.iaload, 1) := by decide +kernel
theorem d_Ref_whole_138 : decode b_Ref_whole 138 = .ok (.iconst 1, 1) := by decide +kernel
theorem d_Ref_whole_139 : decode b_Ref_whole 139 = .ok (.iadd, 1) := by decide +kernel
theorem d_Ref_whole_140 : decode b_Ref_whole 140 = .ok (.iastore, 1) := by decide +kernel
theorem d_Ref_whole_141 : decode b_Ref_whole 141 = .ok (.iconst 0, 1) := by decide +kernel
theorem d_Ref_whole_142 : decode b_Ref_whole 142 = .ok (.istore_n 1, 1) := by decide +kernel
theorem d_Ref_whole_143 : decode b_Ref_whole 143 = .ok (.iload_n 1, 1) := by decide +kernel
theorem d_Ref_whole_144 : decode b_Ref_whole 144 = .ok (.bipush 8, 2) := by decide +kernel
theorem d_Ref_whole_146 : decode b_Ref_whole 146 = .ok (.if_icmp .ge 21, 3) := by decide +kernel
theorem d_Ref_whole_149 : decode b_Ref_whole 149 = .ok (.aload_n 0, 1) := by decide +kernel
theorem d_Ref_whole_150 : decode b_Ref_whole 150 = .ok (.getfield 78, 3) := by decide +kernel
theorem d_Ref_whole_153 : decode b_Ref_whole 153 = .ok (.iload_n 1, 1) := by decide +kernel
theorem d_Ref_whole_154 : decode b_Ref_whole 154 = .ok (.aload_n 0, 1) := by decide +kernel
theorem d_Ref_whole_155 : decode b_Ref_whole 155 = .ok (.getfield 96, 3) := by decide +kernel
theorem d_Ref_whole_158 : decode b_Ref_whole 158 = .ok (.iload_n 1, 1) := by decide +kernel
theorem d_Ref_whole_159 : decode b_Ref_whole 159 = .ok (.iaload, 1) := by decide +kernel
theorem d_Ref_whole_160 : decode b_Ref_whole 160 = .ok (.iastore, 1) := by decide +kernel
theorem d_Ref_whole_161 : decode b_Ref_whole 161 = .ok (.iinc 1 1, 3) := by decide +kernel
theorem d_Ref_whole_164 : decode b_Ref_whole 164 = .ok (.goto (-21), 3) := by decide +kernel
theorem d_Ref_whole_167 : decode b_Ref_whole 167 = .ok (.iconst 0, 1) := by decide +kernel
theorem d_Ref_whole_168 : decode b_Ref_whole 168 = .ok (.istore_n 1, 1) := by decide +kernel
theorem d_Ref_whole_169 : decode b_Ref_whole 169 = .ok (.iload_n 1, 1) := by decide +kernel
theorem d_Ref_whole_170 : decode b_Ref_whole 170 = .ok (.iconst 3, 1) := by decide +kernel
theorem d_Ref_whole_171 : decode b_Ref_whole 171 = .ok (.if_icmp .ge 54, 3) := by decide +kernel
theorem d_Ref_whole_174 : decode b_Ref_whole 174 = .ok (.aload_n 0, 1) := by decide +kernel
theorem d_Ref_whole_175 : decode b_Ref_whole 175 = .ok (.getfield 78, 3) := by decide +kernel
theorem d_Ref_whole_178 : decode b_Ref_whole 178 = .ok (.bipush 8, 2) := by decide +kernel
theorem d_Ref_whole_180 : decode b_Ref_whole 180 = .ok (.iload_n 1, 1) := by decide +kernel
theorem d_Ref_whole_181 : decode b_Ref_whole 181 = .ok (.iadd, 1) := by decide +kernel
theorem d_Ref_whole_182 : decode b_Ref_whole 182 = .ok (.aload_n 0, 1) := by decide +kernel
theorem d_Ref_whole_183 : decode b_Ref_whole 183 = .ok (.getfield 105, 3) := by decide +kernel
theorem d_Ref_whole_186 : decode b_Ref_whole 186 = .ok (.iload_n 1, 1) := by decide +kernel
theorem d_Ref_whole_187 : decode b_Ref_whole 187 = .ok (.iaload, 1) := by decide +kernel
theorem d_Ref_whole_188 : decode b_Ref_whole 188 = .ok (.ifCond .ne 7, 3) := by decide +kernel
theorem d_Ref_whole_191 : decode b_Ref_whole 191 = .ok (.iconst 0, 1) := by decide +kernel
theorem d_Ref_whole_192 : decode b_Ref_whole 192 = .ok (.goto 26, 3) := by decide +kernel
theorem d_Ref_whole_195 : decode b_Ref_whole 195 = .ok (.aload_n 0, 1) := by decide +kernel
theorem d_Ref_whole_196 : decode b_Ref_whole 196 = .ok (.getfield 90, 3) := by decide +kernel
theorem d_Ref_whole_199 : decode b_Ref_whole 199 = .ok (.aload_n 0, 1) := by decide +kernel
theorem d_Ref_whole_200 : decode b_Ref_whole 200 = .ok (.getfield 102, 3) := by decide +kernel
theorem d_Ref_whole_203 : decode b_Ref_whole 203 = .ok (.bipush 7, 2) := by decide +kernel
theorem d_Ref_whole_205 : decode b_Ref_whole 205 = .ok (.iload_n 1, 1) := by decide +kernel
theorem d_Ref_whole_206 : decode b_Ref_whole 206 = .ok (.imul, 1) := by decide +kernel
theorem d_Ref_whole_207 : decode b_Ref_whole 207 = .ok (.aload_n 0, 1) := by decide +kernel
theorem d_Ref_whole_208 : decode b_Ref_whole 208 = .ok (.getfield 105, 3) := by decide +kernel
theorem d_Ref_whole_211 : decode b_Ref_whole 211 = .ok (.iload_n 1, 1) := by decide +kernel
theorem d_Ref_whole_212 : decode b_Ref_whole 212 = .ok (.iaload, 1) := by decide +kernel
theorem d_Ref_whole_213 : decode b_Ref_whole 213 = .ok (.iadd, 1) := by decide +kernel
theorem d_Ref_whole_214 : decode b_Ref_whole 214 = .ok (.iconst 1, 1) := by decide +kernel
theorem d_Ref_whole_215 : decode b_Ref_whole 215 = .ok (.isub, 1) := by decide +kernel
theorem d_Ref_whole_216 : decode b_Ref_whole 216 = .ok (.iaload, 1) := by decide +kernel
theorem d_Ref_whole_217 : decode b_Ref_whole 217 = .ok (.iaload, 1) := by decide +kernel
theorem d_Ref_whole_218 : decode b_Ref_whole 218 = .ok (.iastore, 1) := by decide +kernel
theorem d_Ref_whole_219 : decode b_Ref_whole 219 = .ok (.iinc 1 1, 3) := by decide +kernel
theorem d_Ref_whole_222 : decode b_Ref_whole 222 = .ok (.goto (-53), 3) := by decide +kernel
theorem d_Ref_whole_225 : decode b_Ref_whole 225 = .ok (.aload_n 0, 1) := by decide +kernel
theorem d_Ref_whole_226 : decode b_Ref_whole 226 = .ok (.iconst 4, 1) := by decide +kernel
theorem d_Ref_whole_227 : decode b_Ref_whole 227 = .ok (.aload_n 0, 1) := by decide +kernel
theorem d_Ref_whole_228 : decode b_Ref_whole 228 = .ok (.getfield 242, 3) := by decide +kernel
theorem d_Ref_whole_231 : decode b_Ref_whole 231 = .ok (.iadd, 1) := by decide +kernel
theorem d_Ref_whole_232 : decode b_Ref_whole 232 = .ok (.invokevirtual 231, 3) := by decide +kernel
theorem d_Ref_whole_235 : decode b_Ref_whole 235 = .ok (.pop, 1) := by decide +kernel
theorem d_Ref_whole_236 : decode b_Ref_whole 236 = .ok (.return_, 1) := by decide +kernel
theorem d_Ref_relate_0 : decode b_Ref_relate 0 = .ok (.iconst 0, 1) := by decide +kernel
theorem d_Ref_relate_1 : decode b_Ref_relate 1 = .ok (.istore_n 1, 1) := by decide +kernel
theorem d_Ref_relate_2 : decode b_Ref_relate 2 = .ok (.iload_n 1, 1) := by decide +kernel
theorem d_Ref_relate_3 : decode b_Ref_relate 3 = .ok (.aload_n 0, 1) := by decide +kernel
theorem d_Ref_relate_4 : decode b_Ref_relate 4 = .ok (.getfield 133, 3) := by decide +kernel
theorem d_Ref_relate_7 : decode b_Ref_relate 7 = .ok (.if_icmp .ge 88, 3) := by decide +kernel
theorem d_Ref_relate_10 : decode b_Ref_relate 10 = .ok (.bipush 7, 2) := by decide +kernel
theorem d_Ref_relate_12 : decode b_Ref_relate 12 = .ok (.iload_n 1, 1) := by decide +kernel
theorem d_Ref_relate_13 : decode b_Ref_relate 13 = .ok (.imul, 1) := by decide +kernel
theorem d_Ref_relate_14 : decode b_Ref_relate 14 = .ok (.istore_n 2, 1) := by decide +kernel
theorem d_Ref_relate_15 : decode b_Ref_relate 15 = .ok (.iload_n 2, 1) := by decide +kernel
theorem d_Ref_relate_16 : decode b_Ref_relate 16 = .ok (.bipush 7, 2) := by decide +kernel
theorem d_Ref_relate_18 : decode b_Ref_relate 18 = .ok (.iload_n 1, 1) := by decide +kernel
theorem d_Ref_relate_19 : decode b_Ref_relate 19 = .ok (.imul, 1) := by decide +kernel
theorem d_Ref_relate_20 : decode b_Ref_relate 20 = .ok (.aload_n 0, 1) := by decide +kernel
theorem d_Ref_relate_21 : decode b_Ref_relate 21 = .ok (.getfield 7, 3) := by decide +kernel
theorem d_Ref_relate_24 : decode b_Ref_relate 24 = .ok (.iload_n 1, 1) := by decide +kernel
theorem d_Ref_relate_25 : decode b_Ref_relate 25 = .ok (.iaload, 1) := by decide +kernel
theorem d_Ref_relate_26 : decode b_Ref_relate 26 = .ok (.iadd, 1) := by decide +kernel
theorem d_Ref_relate_27 : decode b_Ref_relate 27 = .ok (.if_icmp .ge 62, 3) := by decide +kernel
theorem d_Ref_relate_30 : decode b_Ref_relate 30 = .ok (.iload_n 2, 1) := by decide +kernel
theorem d_Ref_relate_31 : decode b_Ref_relate 31 = .ok (.iconst 1, 1) := by decide +kernel
theorem d_Ref_relate_32 : decode b_Ref_relate 32 = .ok (.iadd, 1) := by decide +kernel
theorem d_Ref_relate_33 : decode b_Ref_relate 33 = .ok (.istore_n 3, 1) := by decide +kernel
theorem d_Ref_relate_34 : decode b_Ref_relate 34 = .ok (.iload_n 3, 1) := by decide +kernel
theorem d_Ref_relate_35 : decode b_Ref_relate 35 = .ok (.bipush 7, 2) := by decide +kernel
theorem d_Ref_relate_37 : decode b_Ref_relate 37 = .ok (.iload_n 1, 1) := by decide +kernel
theorem d_Ref_relate_38 : decode b_Ref_relate 38 = .ok (.imul, 1) := by decide +kernel
theorem d_Ref_relate_39 : decode b_Ref_relate 39 = .ok (.aload_n 0, 1) := by decide +kernel
theorem d_Ref_relate_40 : decode b_Ref_relate 40 = .ok (.getfield 7, 3) := by decide +kernel
theorem d_Ref_relate_43 : decode b_Ref_relate 43 = .ok (.iload_n 1, 1) := by decide +kernel
theorem d_Ref_relate_44 : decode b_Ref_relate 44 = .ok (.iaload, 1) := by decide +kernel
theorem d_Ref_relate_45 : decode b_Ref_relate 45 = .ok (.iadd, 1) := by decide +kernel
theorem d_Ref_relate_46 : decode b_Ref_relate 46 = .ok (.if_icmp .ge 37, 3) := by decide +kernel
theorem d_Ref_relate_49 : decode b_Ref_relate 49 = .ok (.aload_n 0, 1) := by decide +kernel
theorem d_Ref_relate_50 : decode b_Ref_relate 50 = .ok (.getfield 84, 3) := by decide +kernel
theorem d_Ref_relate_53 : decode b_Ref_relate 53 = .ok (.iload_n 2, 1) := by decide +kernel
theorem d_Ref_relate_54 : decode b_Ref_relate 54 = .ok (.baload, 1) := by decide +kernel
theorem d_Ref_relate_55 : decode b_Ref_relate 55 = .ok (.ifCond .eq 22, 3) := by decide +kernel
theorem d_Ref_relate_58 : decode b_Ref_relate 58 = .ok (.aload_n 0, 1) := by decide +kernel
theorem d_Ref_relate_59 : decode b_Ref_relate 59 = .ok (.getfield 84, 3) := by decide +kernel
theorem d_Ref_relate_62 : decode b_Ref_relate 62 = .ok (.iload_n 3, 1) := by decide +kernel
theorem d_Ref_relate_63 : decode b_Ref_relate 63 = .ok (.baload, 1) := by decide +kernel
theorem d_Ref_relate_64 : decode b_Ref_relate 64 = .ok (.ifCond .eq 13, 3) := by decide +kernel
theorem d_Ref_relate_67 : decode b_Ref_relate 67 = .ok (.aload_n 0, 1) := by decide +kernel
theorem d_Ref_relate_68 : decode b_Ref_relate 68 = .ok (.aload_n 0, 1) := by decide +kernel
theorem d_Ref_relate_69 : decode b_Ref_relate 69 = .ok (.getfield 111, 3) := by decide +kernel
theorem d_Ref_relate_72 : decode b_Ref_relate 72 = .ok (.iload_n 2, 1) := by decide +kernel
theorem d_Ref_relate_73 : decode b_Ref_relate 73 = .ok (.iload_n 3, 1) := by decide +kernel
theorem d_Ref_relate_74 : decode b_Ref_relate 74 = .ok (.invokevirtual 293, 3) := by decide +kernel
theorem d_Ref_relate_77 : decode b_Ref_relate 77 = .ok (.iinc 3 1, 3) := by decide +kernel
theorem d_Ref_relate_80 : decode b_Ref_relate 80 = .ok (.goto (-46), 3) := by decide +kernel
theorem d_Ref_relate_83 : decode b_Ref_relate 83 = .ok (.iinc 2 1, 3) := by decide +kernel
theorem d_Ref_relate_86 : decode b_Ref_relate 86 = .ok (.goto (-71), 3) := by decide +kernel
theorem d_Ref_relate_89 : decode b_Ref_relate 89 = .ok (.iinc 1 1, 3) := by decide +kernel
theorem d_Ref_relate_92 : decode b_Ref_relate 92 = .ok (.goto (-90), 3) := by decide +kernel
theorem d_Ref_relate_95 : decode b_Ref_relate 95 = .ok (.iconst 0, 1) := by decide +kernel
theorem d_Ref_relate_96 : decode b_Ref_relate 96 = .ok (.istore_n 1, 1) := by decide +kernel
theorem d_Ref_relate_97 : decode b_Ref_relate 97 = .ok (.iload_n 1, 1) := by decide +kernel
theorem d_Ref_relate_98 : decode b_Ref_relate 98 = .ok (.iconst 4, 1) := by decide +kernel
theorem d_Ref_relate_99 : decode b_Ref_relate 99 = .ok (.if_icmp .ge 80, 3) := by decide +kernel
theorem d_Ref_relate_102 : decode b_Ref_relate 102 = .ok (.bipush 7, 2) := by decide +kernel
theorem d_Ref_relate_104 : decode b_Ref_relate 104 = .ok (.iload_n 1, 1) := by decide +kernel
theorem d_Ref_relate_105 : decode b_Ref_relate 105 = .ok (.imul, 1) := by decide +kernel
theorem d_Ref_relate_106 : decode b_Ref_relate 106 = .ok (.istore_n 2, 1) := by decide +kernel
theorem d_Ref_relate_107 : decode b_Ref_relate 107 = .ok (.iload_n 2, 1) := by decide +kernel
theorem d_Ref_relate_108 : decode b_Ref_relate 108 = .ok (.bipush 7, 2) := by decide +kernel
theorem d_Ref_relate_110 : decode b_Ref_relate 110 = .ok (.iload_n 1, 1) := by decide +kernel
theorem d_Ref_relate_111 : decode b_Ref_relate 111 = .ok (.imul, 1) := by decide +kernel
theorem d_Ref_relate_112 : decode b_Ref_relate 112 = .ok (.aload_n 0, 1) := by decide +kernel
theorem d_Ref_relate_113 : decode b_Ref_relate 113 = .ok (.getfield 105, 3) := by decide +kernel
theorem d_Ref_relate_116 : decode b_Ref_relate 116 = .ok (.iload_n 1, 1) := by decide +kernel
theorem d_Ref_relate_117 : decode b_Ref_relate 117 = .ok (.iaload, 1) := by decide +kernel
theorem d_Ref_relate_118 : decode b_Ref_relate 118 = .ok (.iadd, 1) := by decide +kernel
theorem d_Ref_relate_119 : decode b_Ref_relate 119 = .ok (.if_icmp .ge 54, 3) := by decide +kernel
theorem d_Ref_relate_122 : decode b_Ref_relate 122 = .ok (.iload_n 2, 1) := by decide +kernel
theorem d_Ref_relate_123 : decode b_Ref_relate 123 = .ok (.iconst 1, 1) := by decide +kernel
theorem d_Ref_relate_124 : decode b_Ref_relate 124 = .ok (.iadd, 1) := by decide +kernel
theorem d_Ref_relate_125 : decode b_Ref_relate 125 = .ok (.istore_n 3, 1) := by decide +kernel
theorem d_Ref_relate_126 : decode b_Ref_relate 126 = .ok (.iload_n 3, 1) := by decide +kernel
theorem d_Ref_relate_127 : decode b_Ref_relate 127 = .ok (.bipush 7, 2) := by decide +kernel
theorem d_Ref_relate_129 : decode b_Ref_relate 129 = .ok (.iload_n 1, 1) := by decide +kernel
theorem d_Ref_relate_130 : decode b_Ref_relate 130 = .ok (.imul, 1) := by decide +kernel
theorem d_Ref_relate_131 : decode b_Ref_relate 131 = .ok (.aload_n 0, 1) := by decide +kernel
theorem d_Ref_relate_132 : decode b_Ref_relate 132 = .ok (.getfield 105, 3) := by decide +kernel
theorem d_Ref_relate_135 : decode b_Ref_relate 135 = .ok (.iload_n 1, 1) := by decide +kernel
theorem d_Ref_relate_136 : decode b_Ref_relate 136 = .ok (.iaload, 1) := by decide +kernel
theorem d_Ref_relate_137 : decode b_Ref_relate 137 = .ok (.iadd, 1) := by decide +kernel
theorem d_Ref_relate_138 : decode b_Ref_relate 138 = .ok (.if_icmp .ge 29, 3) := by decide +kernel
theorem d_Ref_relate_141 : decode b_Ref_relate 141 = .ok (.aload_n 0, 1) := by decide +kernel
theorem d_Ref_relate_142 : decode b_Ref_relate 142 = .ok (.aload_n 0, 1) := by decide +kernel
theorem d_Ref_relate_143 : decode b_Ref_relate 143 = .ok (.getfield 117, 3) := by decide +kernel
theorem d_Ref_relate_146 : decode b_Ref_relate 146 = .ok (.aload_n 0, 1) := by decide +kernel
theorem d_Ref_relate_147 : decode b_Ref_relate 147 = .ok (.getfield 102, 3) := by decide +kernel
theorem d_Ref_relate_150 : decode b_Ref_relate 150 = .ok (.iload_n 2, 1) := by decide +kernel
theorem d_Ref_relate_151 : decode b_Ref_relate 151 = .ok (.iaload, 1) := by decide +kernel
theorem d_Ref_relate_152 : decode b_Ref_relate 152 = .ok (.aload_n 0, 1) := by decide +kernel
theorem d_Ref_relate_153 : decode b_Ref_relate 153 = .ok (.getfield 102, 3) := by decide +kernel
theorem d_Ref_relate_156 : decode b_Ref_relate 156 = .ok (.iload_n 3, 1) := by decide +kernel
theorem d_Ref_relate_157 : decode b_Ref_relate 157 = .ok (.iaload, 1) := by decide +kernel
theorem d_Ref_relate_158 : decode b_Ref_relate 158 = .ok (.invokevirtual 293, 3) := by decide +kernel
theorem d_Ref_relate_161 : decode b_Ref_relate 161 = .ok (.iinc 3 1, 3) := by decide +kernel
theorem d_Ref_relate_164 : decode b_Ref_relate 164 = .ok (.goto (-38), 3) := by decide +kernel
theorem d_Ref_relate_167 : decode b_Ref_relate 167 = .ok (.iinc 2 1, 3) := by decide +kernel
theorem d_Ref_relate_170 : decode b_Ref_relate 170 = .ok (.goto (-63), 3) := by decide +kernel
theorem d_Ref_relate_173 : decode b_Ref_relate 173 = .ok (.iinc 1 1, 3) := by decide +kernel
theorem d_Ref_relate_176 : decode b_Ref_relate 176 = .ok (.goto (-79), 3) := by decide +kernel
theorem d_Ref_relate_179 : decode b_Ref_relate 179 = .ok (.iconst 0, 1) := by decide +kernel
theorem d_Ref_relate_180 : decode b_Ref_relate 180 = .ok (.istore_n 1, 1) := by decide +kernel
theorem d_Ref_relate_181 : decode b_Ref_relate 181 = .ok (.iload_n 1, 1) := by decide +kernel
theorem d_Ref_relate_182 : decode b_Ref_relate 182 = .ok (.aload_n 0, 1) := by decide +kernel
theorem d_Ref_relate_183 : decode b_Ref_relate 183 = .ok (.getfield 245, 3) := by decide +kernel
theorem d_Ref_relate_186 : decode b_Ref_relate 186 = .ok (.if_icmp .ge 42, 3) := by decide +kernel
theorem d_Ref_relate_189 : decode b_Ref_relate 189 = .ok (.aload_n 0, 1) := by decide +kernel
theorem d_Ref_relate_190 : decode b_Ref_relate 190 = .ok (.getfield 99, 3) := by decide +kernel
theorem d_Ref_relate_193 : decode b_Ref_relate 193 = .ok (.iload_n 1, 1) := by decide +kernel
theorem d_Ref_relate_194 : decode b_Ref_relate 194 = .ok (.iaload, 1) := by decide +kernel
theorem d_Ref_relate_195 : decode b_Ref_relate 195 = .ok (.istore_n 2, 1) := by decide +kernel
theorem d_Ref_relate_196 : decode b_Ref_relate 196 = .ok (.aload_n 0, 1) := by decide +kernel
theorem d_Ref_relate_197 : decode b_Ref_relate 197 = .ok (.getfield 84, 3) := by decide +kernel
theorem d_Ref_relate_200 : decode b_Ref_relate 200 = .ok (.iload_n 2, 1) := by decide +kernel
theorem d_Ref_relate_201 : decode b_Ref_relate 201 = .ok (.baload, 1) := by decide +kernel
theorem d_Ref_relate_202 : decode b_Ref_relate 202 = .ok (.ifCond .eq 20, 3) := by decide +kernel
theorem d_Ref_relate_205 : decode b_Ref_relate 205 = .ok (.aload_n 0, 1) := by decide +kernel
theorem d_Ref_relate_206 : decode b_Ref_relate 206 = .ok (.iload_n 2, 1) := by decide +kernel
theorem d_Ref_relate_207 : decode b_Ref_relate 207 = .ok (.aload_n 0, 1) := by decide +kernel
theorem d_Ref_relate_208 : decode b_Ref_relate 208 = .ok (.getfield 81, 3) := by decide +kernel
theorem d_Ref_relate_211 : decode b_Ref_relate 211 = .ok (.iload_n 2, 1) := by decide +kernel
theorem d_Ref_relate_212 : decode b_Ref_relate 212 = .ok (.iaload, 1) := by decide +kernel
theorem d_Ref_relate_213 : decode b_Ref_relate 213 = .ok (.aload_n 0, 1) := by decide +kernel
theorem d_Ref_relate_214 : decode b_Ref_relate 214 = .ok (.getfield 16, 3) := by decide +kernel
theorem d_Ref_relate_217 : decode b_Ref_relate 217 = .ok (.iload_n 2, 1) := by decide +kernel
theorem d_Ref_relate_218 : decode b_Ref_relate 218 = .ok (.iaload, 1) := by decide +kernel
theorem d_Ref_relate_219 : decode b_Ref_relate 219 = .ok (.invokevirtual 297, 3) := by decide +kernel
theorem d_Ref_relate_222 : decode b_Ref_relate 222 = .ok (.iinc 1 1, 3) := by decide +kernel
theorem d_Ref_relate_225 : decode b_Ref_relate 225 = .ok (.goto (-44), 3) := by decide +kernel
theorem d_Ref_relate_228 : decode b_Ref_relate 228 = .ok (.iconst 0, 1) := by decide +kernel
theorem d_Ref_relate_229 : decode b_Ref_relate 229 = .ok (.istore_n 1, 1) := by decide +kernel
theorem d_Ref_relate_230 : decode b_Ref_relate 230 = .ok (.iload_n 1, 1) := by decide +kernel
theorem d_Ref_relate_231 : decode b_Ref_relate 231 = .ok (.aload_n 0, 1) := by decide +kernel
theorem d_Ref_relate_232 : decode b_Ref_relate 232 = .ok (.getfield 105, 3) := by decide +kernel
theorem d_Ref_relate_235 : decode b_Ref_relate 235 = .ok (.iconst 3, 1) := by decide +kernel
theorem d_Ref_relate_236 : decode b_Ref_relate 236 = .ok (.iaload, 1) := by decide +kernel
theorem d_Ref_relate_237 : decode b_Ref_relate 237 = .ok (.if_icmp .ge 40, 3) := by decide +kernel
theorem d_Ref_relate_240 : decode b_Ref_relate 240 = .ok (.aload_n 0, 1) := by decide +kernel
theorem d_Ref_relate_241 : decode b_Ref_relate 241 = .ok (.aload_n 0, 1) := by decide +kernel
theorem d_Ref_relate_242 : decode b_Ref_relate 242 = .ok (.getfield 102, 3) := by decide +kernel
theorem d_Ref_relate_245 : decode b_Ref_relate 245 = .ok (.bipush 21, 2) := by decide +kernel
theorem d_Ref_relate_247 : decode b_Ref_relate 247 = .ok (.iload_n 1, 1) := by decide +kernel
theorem d_Ref_relate_248 : decode b_Ref_relate 248 = .ok (.iadd, 1) := by decide +kernel
theorem d_Ref_relate_249 : decode b_Ref_relate 249 = .ok (.iaload, 1) := by decide +kernel
theorem d_Ref_relate_250 : decode b_Ref_relate 250 = .ok (.iload_n 1, 1) := by decide +kernel
theorem d_Ref_relate_251 : decode b_Ref_relate 251 = .ok (.ifCond .ne 7, 3) := by decide +kernel
theorem d_Ref_relate_254 : decode b_Ref_relate 254 = .ok (.iconst (-1), 1) := by decide +kernel
theorem d_Ref_relate_255 : decode b_Ref_relate 255 = .ok (.goto 12, 3) := by decide +kernel
theorem d_Ref_relate_258 : decode b_Ref_relate 258 = .ok (.aload_n 0, 1) := by decide +kernel
theorem d_Ref_relate_259 : decode b_Ref_relate 259 = .ok (.getfield 102, 3) := by decide +kernel
theorem d_Ref_relate_262 : decode b_Ref_relate 262 = .ok (.bipush 20, 2) := by decide +kernel
theorem d_Ref_relate_264 : decode b_Ref_relate 264 = .ok (.iload_n 1, 1) := by decide +kernel
theorem d_Ref_relate_265 : decode b_Ref_relate 265 = .ok (.iadd, 1) := by decide +kernel
theorem d_Ref_relate_266 : decode b_Ref_relate 266 = .ok (.iaload, 1) := by decide +kernel
theorem d_Ref_relate_267 : decode b_Ref_relate 267 = .ok (.iconst 3, 1) := by decide +kernel
theorem d_Ref_relate_268 : decode b_Ref_relate 268 = .ok (.invokevirtual 297, 3) := by decide +kernel
theorem d_Ref_relate_271 : decode b_Ref_relate 271 = .ok (.iinc 1 1, 3) := by decide +kernel
theorem d_Ref_relate_274 : decode b_Ref_relate 274 = .ok (.goto (-44), 3) := by decide +kernel
theorem d_Ref_relate_277 : decode b_Ref_relate 277 = .ok (.return_, 1) := by decide +kernel
theorem d_Ref_taken_0 : decode b_Ref_taken 0 = .ok (.iload_n 2, 1) := by decide +kernel
theorem d_Ref_taken_1 : decode b_Ref_taken 1 = .ok (.ifCond .lt 13, 3) := by decide +kernel
theorem d_Ref_taken_4 : decode b_Ref_taken 4 = .ok (.aload_n 0, 1) := by decide +kernel
theorem d_Ref_taken_5 : decode b_Ref_taken 5 = .ok (.aload_n 0, 1) := by decide +kernel
theorem d_Ref_taken_6 : decode b_Ref_taken 6 = .ok (.getfield 114, 3) := by decide +kernel
theorem d_Ref_taken_9 : decode b_Ref_taken 9 = .ok (.iload_n 2, 1) := by decide +kernel
theorem d_Ref_taken_10 : decode b_Ref_taken 10 = .ok (.iload_n 1, 1) := by decide +kernel
theorem d_Ref_taken_11 : decode b_Ref_taken 11 = .ok (.invokevirtual 293, 3) := by decide +kernel
theorem d_Ref_taken_14 : decode b_Ref_taken 14 = .ok (.iload_n 2, 1) := by decide +kernel
theorem d_Ref_taken_15 : decode b_Ref_taken 15 = .ok (.ifCond .ge 7, 3) := by decide +kernel
theorem d_Ref_taken_18 : decode b_Ref_taken 18 = .ok (.iconst 1, 1) := by decide +kernel
theorem d_Ref_taken_19 : decode b_Ref_taken 19 = .ok (.goto 4, 3) := by decide +kernel
theorem d_Ref_taken_22 : decode b_Ref_taken 22 = .ok (.iconst 0, 1) := by decide +kernel
theorem d_Ref_taken_23 : decode b_Ref_taken 23 = .ok (.istore 4, 2) := by decide +kernel
theorem d_Ref_taken_25 : decode b_Ref_taken 25 = .ok (.bipush 7, 2) := by decide +kernel
theorem d_Ref_taken_27 : decode b_Ref_taken 27 = .ok (.iload_n 3, 1) := by decide +kernel
theorem d_Ref_taken_28 : decode b_Ref_taken 28 = .ok (.imul, 1) := by decide +kernel
theorem d_Ref_taken_29 : decode b_Ref_taken 29 = .ok (.istore 5, 2) := by decide +kernel
theorem d_Ref_taken_31 : decode b_Ref_taken 31 = .ok (.iload 5, 2) := by decide +kernel
theorem d_Ref_taken_33 : decode b_Ref_taken 33 = .ok (.bipush 7, 2) := by decide +kernel
theorem d_Ref_taken_35 : decode b_Ref_taken 35 = .ok (.iload_n 3, 1) := by decide +kernel
theorem d_Ref_taken_36 : decode b_Ref_taken 36 = .ok (.imul, 1) := by decide +kernel
theorem d_Ref_taken_37 : decode b_Ref_taken 37 = .ok (.aload_n 0, 1) := by decide +kernel
theorem d_Ref_taken_38 : decode b_Ref_taken 38 = .ok (.getfield 105, 3) := by decide +kernel
theorem d_Ref_taken_41 : decode b_Ref_taken 41 = .ok (.iload_n 3, 1) := by decide +kernel
theorem d_Ref_taken_42 : decode b_Ref_taken 42 = .ok (.iaload, 1) := by decide +kernel
theorem d_Ref_taken_43 : decode b_Ref_taken 43 = .ok (.iadd, 1) := by decide +kernel
theorem d_Ref_taken_44 : decode b_Ref_taken 44 = .ok (.if_icmp .ge 64, 3) := by decide +kernel
theorem d_Ref_taken_47 : decode b_Ref_taken 47 = .ok (.iload 4, 2) := by decide +kernel
theorem d_Ref_taken_49 : decode b_Ref_taken 49 = .ok (.ifCond .eq 30, 3) := by decide +kernel
theorem d_Ref_taken_52 : decode b_Ref_taken 52 = .ok (.aload_n 0, 1) := by decide +kernel
theorem d_Ref_taken_53 : decode b_Ref_taken 53 = .ok (.getfield 102, 3) := by decide +kernel
theorem d_Ref_taken_56 : decode b_Ref_taken 56 = .ok (.iload 5, 2) := by decide +kernel
theorem d_Ref_taken_58 : decode b_Ref_taken 58 = .ok (.iaload, 1) := by decide +kernel
theorem d_Ref_taken_59 : decode b_Ref_taken 59 = .ok (.iload_n 1, 1) := by decide +kernel
theorem d_Ref_taken_60 : decode b_Ref_taken 60 = .ok (.if_icmp .eq 19, 3) := by decide +kernel
theorem d_Ref_taken_63 : decode b_Ref_taken 63 = .ok (.aload_n 0, 1) := by decide +kernel
theorem d_Ref_taken_64 : decode b_Ref_taken 64 = .ok (.aload_n 0, 1) := by decide +kernel
theorem d_Ref_taken_65 : decode b_Ref_taken 65 = .ok (.getfield 120, 3) := by decide +kernel
theorem d_Ref_taken_68 : decode b_Ref_taken 68 = .ok (.iload_n 1, 1) := by decide +kernel
theorem d_Ref_taken_69 : decode b_Ref_taken 69 = .ok (.aload_n 0, 1) := by decide +kernel
theorem d_Ref_taken_70 : decode b_Ref_taken 70 = .ok (.getfield 102, 3) := by decide +kernel
theorem d_Ref_taken_73 : decode b_Ref_taken 73 = .ok (.iload 5, 2) := by decide +kernel
theorem d_Ref_taken_75 : decode b_Ref_taken 75 = .ok (.iaload, 1) := by decide +kernel
theorem d_Ref_taken_76 : decode b_Ref_taken 76 = .ok (.invokevirtual 293, 3) := by decide +kernel
theorem d_Ref_taken_79 : decode b_Ref_taken 79 = .ok (.iload 4, 2) := by decide +kernel
theorem d_Ref_taken_81 : decode b_Ref_taken 81 = .ok (.ifCond .ne 14, 3) := by decide +kernel
theorem d_Ref_taken_84 : decode b_Ref_taken 84 = .ok (.aload_n 0, 1) := by decide +kernel
theorem d_Ref_taken_85 : decode b_Ref_taken 85 = .ok (.getfield 102, 3) := by decide +kernel
theorem d_Ref_taken_88 : decode b_Ref_taken 88 = .ok (.iload 5, 2) := by decide +kernel
theorem d_Ref_taken_90 : decode b_Ref_taken 90 = .ok (.iaload, 1) := by decide +kernel
theorem d_Ref_taken_91 : decode b_Ref_taken 91 = .ok (.iload_n 2, 1) := by decide +kernel
theorem d_Ref_taken_92 : decode b_Ref_taken 92 = .ok (.if_icmp .ne 7, 3) := by decide +kernel
theorem d_Ref_taken_95 : decode b_Ref_taken 95 = .ok (.iconst 1, 1) := by decide +kernel
theorem d_Ref_taken_96 : decode b_Ref_taken 96 = .ok (.goto 4, 3) := by decide +kernel
theorem d_Ref_taken_99 : decode b_Ref_taken 99 = .ok (.iconst 0, 1) := by decide +kernel
theorem d_Ref_taken_100 : decode b_Ref_taken 100 = .ok (.istore 4, 2) := by decide +kernel
theorem d_Ref_taken_102 : decode b_Ref_taken 102 = .ok (.iinc 5 1, 3) := by decide +kernel
theorem d_Ref_taken_105 : decode b_Ref_taken 105 = .ok (.goto (-74), 3) := by decide +kernel
theorem d_Ref_taken_108 : decode b_Ref_taken 108 = .ok (.return_, 1) := by decide +kernel
theorem d_Ref_actionOf_0 : decode b_Ref_actionOf 0 = .ok (.iconst 0, 1) := by decide +kernel
theorem d_Ref_actionOf_1 : decode b_Ref_actionOf 1 = .ok (.istore_n 2, 1) := by decide +kernel
theorem d_Ref_actionOf_2 : decode b_Ref_actionOf 2 = .ok (.iload_n 2, 1) := by decide +kernel
theorem d_Ref_actionOf_3 : decode b_Ref_actionOf 3 = .ok (.bipush 28, 2) := by decide +kernel
theorem d_Ref_actionOf_5 : decode b_Ref_actionOf 5 = .ok (.if_icmp .ge 57, 3) := by decide +kernel
theorem d_Ref_actionOf_8 : decode b_Ref_actionOf 8 = .ok (.iload_n 2, 1) := by decide +kernel
theorem d_Ref_actionOf_9 : decode b_Ref_actionOf 9 = .ok (.bipush 7, 2) := by decide +kernel
theorem d_Ref_actionOf_11 : decode b_Ref_actionOf 11 = .ok (.idiv, 1) := by decide +kernel
theorem d_Ref_actionOf_12 : decode b_Ref_actionOf 12 = .ok (.aload_n 0, 1) := by decide +kernel
theorem d_Ref_actionOf_13 : decode b_Ref_actionOf 13 = .ok (.getfield 133, 3) := by decide +kernel
theorem d_Ref_actionOf_16 : decode b_Ref_actionOf 16 = .ok (.if_icmp .ge 40, 3) := by decide +kernel
theorem d_Ref_actionOf_19 : decode b_Ref_actionOf 19 = .ok (.iload_n 2, 1) := by decide +kernel
theorem d_Ref_actionOf_20 : decode b_Ref_actionOf 20 = .ok (.bipush 7, 2) := by decide +kernel
theorem d_Ref_actionOf_22 : decode b_Ref_actionOf 22 = .ok (.irem, 1) := by decide +kernel
theorem d_Ref_actionOf_23 : decode b_Ref_actionOf 23 = .ok (.aload_n 0, 1) := by decide +kernel
theorem d_Ref_actionOf_24 : decode b_Ref_actionOf 24 = .ok (.getfield 7, 3) := by decide +kernel
theorem d_Ref_actionOf_27 : decode b_Ref_actionOf 27 = .ok (.iload_n 2, 1) := by decide +kernel
theorem d_Ref_actionOf_28 : decode b_Ref_actionOf 28 = .ok (.bipush 7, 2) := by decide +kernel
theorem d_Ref_actionOf_30 : decode b_Ref_actionOf 30 = .ok (.idiv, 1) := by decide +kernel
theorem d_Ref_actionOf_31 : decode b_Ref_actionOf 31 = .ok (.iaload, 1) := by decide +kernel
theorem d_Ref_actionOf_32 : decode b_Ref_actionOf 32 = .ok (.if_icmp .ge 24, 3) := by decide +kernel
theorem d_Ref_actionOf_35 : decode b_Ref_actionOf 35 = .ok (.aload_n 0, 1) := by decide +kernel
theorem d_Ref_actionOf_36 : decode b_Ref_actionOf 36 = .ok (.getfield 84, 3) := by decide +kernel
theorem d_Ref_actionOf_39 : decode b_Ref_actionOf 39 = .ok (.iload_n 2, 1) := by decide +kernel
theorem d_Ref_actionOf_40 : decode b_Ref_actionOf 40 = .ok (.baload, 1) := by decide +kernel
theorem d_Ref_actionOf_41 : decode b_Ref_actionOf 41 = .ok (.ifCond .eq 15, 3) := by decide +kernel
theorem d_Ref_actionOf_44 : decode b_Ref_actionOf 44 = .ok (.aload_n 0, 1) := by decide +kernel
theorem d_Ref_actionOf_45 : decode b_Ref_actionOf 45 = .ok (.getfield 108, 3) := by decide +kernel
theorem d_Ref_actionOf_48 : decode b_Ref_actionOf 48 = .ok (.iload_n 2, 1) := by decide +kernel
theorem d_Ref_actionOf_49 : decode b_Ref_actionOf 49 = .ok (.iaload, 1) := by decide +kernel
theorem d_Ref_actionOf_50 : decode b_Ref_actionOf 50 = .ok (.iload_n 1, 1) := by decide +kernel
theorem d_Ref_actionOf_51 : decode b_Ref_actionOf 51 = .ok (.if_icmp .ne 5, 3) := by decide +kernel
theorem d_Ref_actionOf_54 : decode b_Ref_actionOf 54 = .ok (.iload_n 2, 1) := by decide +kernel
theorem d_Ref_actionOf_55 : decode b_Ref_actionOf 55 = .ok (.ireturn, 1) := by decide +kernel
theorem d_Ref_actionOf_56 : decode b_Ref_actionOf 56 = .ok (.iinc 2 1, 3) := by decide +kernel
theorem d_Ref_actionOf_59 : decode b_Ref_actionOf 59 = .ok (.goto (-57), 3) := by decide +kernel
theorem d_Ref_actionOf_62 : decode b_Ref_actionOf 62 = .ok (.iconst (-1), 1) := by decide +kernel
theorem d_Ref_actionOf_63 : decode b_Ref_actionOf 63 = .ok (.ireturn, 1) := by decide +kernel
theorem d_Ref_hasRing_0 : decode b_Ref_hasRing 0 = .ok (.iconst 0, 1) := by decide +kernel
theorem d_Ref_hasRing_1 : decode b_Ref_hasRing 1 = .ok (.istore_n 1, 1) := by decide +kernel
theorem d_Ref_hasRing_2 : decode b_Ref_hasRing 2 = .ok (.iload_n 1, 1) := by decide +kernel
theorem d_Ref_hasRing_3 : decode b_Ref_hasRing 3 = .ok (.aload_n 0, 1) := by decide +kernel
theorem d_Ref_hasRing_4 : decode b_Ref_hasRing 4 = .ok (.getfield 284, 3) := by decide +kernel
theorem d_Ref_hasRing_7 : decode b_Ref_hasRing 7 = .ok (.if_icmp .ge 54, 3) := by decide +kernel
theorem d_Ref_hasRing_10 : decode b_Ref_hasRing 10 = .ok (.iconst 0, 1) := by decide +kernel
theorem d_Ref_hasRing_11 : decode b_Ref_hasRing 11 = .ok (.istore_n 2, 1) := by decide +kernel
theorem d_Ref_hasRing_12 : decode b_Ref_hasRing 12 = .ok (.iload_n 2, 1) := by decide +kernel
theorem d_Ref_hasRing_13 : decode b_Ref_hasRing 13 = .ok (.aload_n 0, 1) := by decide +kernel
theorem d_Ref_hasRing_14 : decode b_Ref_hasRing 14 = .ok (.getfield 284, 3) := by decide +kernel
theorem d_Ref_hasRing_17 : decode b_Ref_hasRing 17 = .ok (.if_icmp .ge 38, 3) := by decide +kernel
theorem d_Ref_hasRing_20 : decode b_Ref_hasRing 20 = .ok (.aload_n 0, 1) := by decide +kernel
theorem d_Ref_hasRing_21 : decode b_Ref_hasRing 21 = .ok (.getfield 123, 3) := by decide +kernel
theorem d_Ref_hasRing_24 : decode b_Ref_hasRing 24 = .ok (.iload_n 2, 1) := by decide +kernel
theorem d_Ref_hasRing_25 : decode b_Ref_hasRing 25 = .ok (.iaload, 1) := by decide +kernel
theorem d_Ref_hasRing_26 : decode b_Ref_hasRing 26 = .ok (.iload_n 1, 1) := by decide +kernel
theorem d_Ref_hasRing_27 : decode b_Ref_hasRing 27 = .ok (.ishr, 1) := by decide +kernel
theorem d_Ref_hasRing_28 : decode b_Ref_hasRing 28 = .ok (.iconst 1, 1) := by decide +kernel
theorem d_Ref_hasRing_29 : decode b_Ref_hasRing 29 = .ok (.iand, 1) := by decide +kernel
theorem d_Ref_hasRing_30 : decode b_Ref_hasRing 30 = .ok (.iconst 1, 1) := by decide +kernel
theorem d_Ref_hasRing_31 : decode b_Ref_hasRing 31 = .ok (.if_icmp .ne 18, 3) := by decide +kernel
theorem d_Ref_hasRing_34 : decode b_Ref_hasRing 34 = .ok (.aload_n 0, 1) := by decide +kernel
theorem d_Ref_hasRing_35 : decode b_Ref_hasRing 35 = .ok (.getfield 123, 3) := by decide +kernel
theorem d_Ref_hasRing_38 : decode b_Ref_hasRing 38 = .ok (.iload_n 2, 1) := by decide +kernel
theorem d_Ref_hasRing_39 : decode b_Ref_hasRing 39 = .ok (.dup2, 1) := by decide +kernel
theorem d_Ref_hasRing_40 : decode b_Ref_hasRing 40 = .ok (.iaload, 1) := by decide +kernel
theorem d_Ref_hasRing_41 : decode b_Ref_hasRing 41 = .ok (.aload_n 0, 1) := by decide +kernel
theorem d_Ref_hasRing_42 : decode b_Ref_hasRing 42 = .ok (.getfield 123, 3) := by decide +kernel
theorem d_Ref_hasRing_45 : decode b_Ref_hasRing 45 = .ok (.iload_n 1, 1) := by decide +kernel
theorem d_Ref_hasRing_46 : decode b_Ref_hasRing 46 = .ok (.iaload, 1) := by decide +kernel
theorem d_Ref_hasRing_47 : decode b_Ref_hasRing 47 = .ok (.ior, 1) := by decide +kernel
theorem d_Ref_hasRing_48 : decode b_Ref_hasRing 48 = .ok (.iastore, 1) := by decide +kernel
theorem d_Ref_hasRing_49 : decode b_Ref_hasRing 49 = .ok (.iinc 2 1, 3) := by decide +kernel
theorem d_Ref_hasRing_52 : decode b_Ref_hasRing 52 = .ok (.goto (-40), 3) := by decide +kernel
theorem d_Ref_hasRing_55 : decode b_Ref_hasRing 55 = .ok (.iinc 1 1, 3) := by decide +kernel
theorem d_Ref_hasRing_58 : decode b_Ref_hasRing 58 = .ok (.goto (-56), 3) := by decide +kernel
theorem d_Ref_hasRing_61 : decode b_Ref_hasRing 61 = .ok (.iconst 0, 1) := by decide +kernel
theorem d_Ref_hasRing_62 : decode b_Ref_hasRing 62 = .ok (.istore_n 1, 1) := by decide +kernel
theorem d_Ref_hasRing_63 : decode b_Ref_hasRing 63 = .ok (.iload_n 1, 1) := by decide +kernel
theorem d_Ref_hasRing_64 : decode b_Ref_hasRing 64 = .ok (.aload_n 0, 1) := by decide +kernel
theorem d_Ref_hasRing_65 : decode b_Ref_hasRing 65 = .ok (.getfield 284, 3) := by decide +kernel
theorem d_Ref_hasRing_68 : decode b_Ref_hasRing 68 = .ok (.if_icmp .ge 25, 3) := by decide +kernel
theorem d_Ref_hasRing_71 : decode b_Ref_hasRing 71 = .ok (.aload_n 0, 1) := by decide +kernel
theorem d_Ref_hasRing_72 : decode b_Ref_hasRing 72 = .ok (.getfield 123, 3) := by decide +kernel
theorem d_Ref_hasRing_75 : decode b_Ref_hasRing 75 = .ok (.iload_n 1, 1) := by decide +kernel
theorem d_Ref_hasRing_76 : decode b_Ref_hasRing 76 = .ok (.iaload, 1) := by decide +kernel
theorem d_Ref_hasRing_77 : decode b_Ref_hasRing 77 = .ok (.iload_n 1, 1) := by decide +kernel
theorem d_Ref_hasRing_78 : decode b_Ref_hasRing 78 = .ok (.ishr, 1) := by decide +kernel
theorem d_Ref_hasRing_79 : decode b_Ref_hasRing 79 = .ok (.iconst 1, 1) := by decide +kernel
theorem d_Ref_hasRing_80 : decode b_Ref_hasRing 80 = .ok (.iand, 1) := by decide +kernel
theorem d_Ref_hasRing_81 : decode b_Ref_hasRing 81 = .ok (.iconst 1, 1) := by decide +kernel
theorem d_Ref_hasRing_82 : decode b_Ref_hasRing 82 = .ok (.if_icmp .ne 5, 3) := by decide +kernel
theorem d_Ref_hasRing_85 : decode b_Ref_hasRing 85 = .ok (.iconst 1, 1) := by decide +kernel
theorem d_Ref_hasRing_86 : decode b_Ref_hasRing 86 = .ok (.ireturn, 1) := by decide +kernel
theorem d_Ref_hasRing_87 : decode b_Ref_hasRing 87 = .ok (.iinc 1 1, 3) := by decide +kernel
theorem d_Ref_hasRing_90 : decode b_Ref_hasRing 90 = .ok (.goto (-27), 3) := by decide +kernel
theorem d_Ref_hasRing_93 : decode b_Ref_hasRing 93 = .ok (.iconst 0, 1) := by decide +kernel
theorem d_Ref_hasRing_94 : decode b_Ref_hasRing 94 = .ok (.ireturn, 1) := by decide +kernel
theorem d_Ref_isWrite_0 : decode b_Ref_isWrite 0 = .ok (.aload_n 0, 1) := by decide +kernel
theorem d_Ref_isWrite_1 : decode b_Ref_isWrite 1 = .ok (.getfield 13, 3) := by decide +kernel
theorem d_Ref_isWrite_4 : decode b_Ref_isWrite 4 = .ok (.iload_n 1, 1) := by decide +kernel
theorem d_Ref_isWrite_5 : decode b_Ref_isWrite 5 = .ok (.iaload, 1) := by decide +kernel
theorem d_Ref_isWrite_6 : decode b_Ref_isWrite 6 = .ok (.iconst 1, 1) := by decide +kernel
theorem d_Ref_isWrite_7 : decode b_Ref_isWrite 7 = .ok (.if_icmp .eq 13, 3) := by decide +kernel
theorem d_Ref_isWrite_10 : decode b_Ref_isWrite 10 = .ok (.aload_n 0, 1) := by decide +kernel
theorem d_Ref_isWrite_11 : decode b_Ref_isWrite 11 = .ok (.getfield 13, 3) := by decide +kernel
theorem d_Ref_isWrite_14 : decode b_Ref_isWrite 14 = .ok (.iload_n 1, 1) := by decide +kernel
theorem d_Ref_isWrite_15 : decode b_Ref_isWrite 15 = .ok (.iaload, 1) := by decide +kernel
theorem d_Ref_isWrite_16 : decode b_Ref_isWrite 16 = .ok (.iconst 2, 1) := by decide +kernel
theorem d_Ref_isWrite_17 : decode b_Ref_isWrite 17 = .ok (.if_icmp .ne 7, 3) := by decide +kernel
theorem d_Ref_isWrite_20 : decode b_Ref_isWrite 20 = .ok (.iconst 1, 1) := by decide +kernel
theorem d_Ref_isWrite_21 : decode b_Ref_isWrite 21 = .ok (.goto 4, 3) := by decide +kernel
theorem d_Ref_isWrite_24 : decode b_Ref_isWrite 24 = .ok (.iconst 0, 1) := by decide +kernel
theorem d_Ref_isWrite_25 : decode b_Ref_isWrite 25 = .ok (.ireturn, 1) := by decide +kernel
theorem d_Ref_isKept_0 : decode b_Ref_isKept 0 = .ok (.aload_n 0, 1) := by decide +kernel
theorem d_Ref_isKept_1 : decode b_Ref_isKept 1 = .ok (.iload_n 1, 1) := by decide +kernel
theorem d_Ref_isKept_2 : decode b_Ref_isKept 2 = .ok (.invokevirtual 301, 3) := by decide +kernel
theorem d_Ref_isKept_5 : decode b_Ref_isKept 5 = .ok (.ifCond .ne 5, 3) := by decide +kernel
theorem d_Ref_isKept_8 : decode b_Ref_isKept 8 = .ok (.iconst 1, 1) := by decide +kernel
theorem d_Ref_isKept_9 : decode b_Ref_isKept 9 = .ok (.ireturn, 1) := by decide +kernel
theorem d_Ref_isKept_10 : decode b_Ref_isKept 10 = .ok (.aload_n 0, 1) := by decide +kernel
theorem d_Ref_isKept_11 : decode b_Ref_isKept 11 = .ok (.getfield 13, 3) := by decide +kernel
theorem d_Ref_isKept_14 : decode b_Ref_isKept 14 = .ok (.iload_n 2, 1) := by decide +kernel
theorem d_Ref_isKept_15 : decode b_Ref_isKept 15 = .ok (.iaload, 1) := by decide +kernel
theorem d_Ref_isKept_16 : decode b_Ref_isKept 16 = .ok (.ifCond .ne 5, 3) := by decide +kernel
theorem d_Ref_isKept_19 : decode b_Ref_isKept 19 = .ok (.iconst 0, 1) := by decide +kernel
theorem d_Ref_isKept_20 : decode b_Ref_isKept 20 = .ok (.ireturn, 1) := by decide +kernel
theorem d_Ref_isKept_21 : decode b_Ref_isKept 21 = .ok (.aload_n 0, 1) := by decide +kernel
theorem d_Ref_isKept_22 : decode b_Ref_isKept 22 = .ok (.getfield 242, 3) := by decide +kernel
theorem d_Ref_isKept_25 : decode b_Ref_isKept 25 = .ok (.iconst 1, 1) := by decide +kernel
theorem d_Ref_isKept_26 : decode b_Ref_isKept 26 = .ok (.if_icmp .eq 26, 3) := by decide +kernel
theorem d_Ref_isKept_29 : decode b_Ref_isKept 29 = .ok (.aload_n 0, 1) := by decide +kernel
theorem d_Ref_isKept_30 : decode b_Ref_isKept 30 = .ok (.iload_n 2, 1) := by decide +kernel
theorem d_Ref_isKept_31 : decode b_Ref_isKept 31 = .ok (.invokevirtual 301, 3) := by decide +kernel
theorem d_Ref_isKept_34 : decode b_Ref_isKept 34 = .ok (.ifCond .eq 18, 3) := by decide +kernel
theorem d_Ref_isKept_37 : decode b_Ref_isKept 37 = .ok (.aload_n 0, 1) := by decide +kernel
theorem d_Ref_isKept_38 : decode b_Ref_isKept 38 = .ok (.getfield 16, 3) := by decide +kernel
theorem d_Ref_isKept_41 : decode b_Ref_isKept 41 = .ok (.iload_n 1, 1) := by decide +kernel
theorem d_Ref_isKept_42 : decode b_Ref_isKept 42 = .ok (.iaload, 1) := by decide +kernel
theorem d_Ref_isKept_43 : decode b_Ref_isKept 43 = .ok (.aload_n 0, 1) := by decide +kernel
theorem d_Ref_isKept_44 : decode b_Ref_isKept 44 = .ok (.getfield 16, 3) := by decide +kernel
theorem d_Ref_isKept_47 : decode b_Ref_isKept 47 = .ok (.iload_n 2, 1) := by decide +kernel
theorem d_Ref_isKept_48 : decode b_Ref_isKept 48 = .ok (.iaload, 1) := by decide +kernel
theorem d_Ref_isKept_49 : decode b_Ref_isKept 49 = .ok (.if_icmp .ne 7, 3) := by decide +kernel
theorem d_Ref_isKept_52 : decode b_Ref_isKept 52 = .ok (.iconst 1, 1) := by decide +kernel
theorem d_Ref_isKept_53 : decode b_Ref_isKept 53 = .ok (.goto 4, 3) := by decide +kernel
theorem d_Ref_isKept_56 : decode b_Ref_isKept 56 = .ok (.iconst 0, 1) := by decide +kernel
theorem d_Ref_isKept_57 : decode b_Ref_isKept 57 = .ok (.ireturn, 1) := by decide +kernel
theorem d_Ref_stands_0 : decode b_Ref_stands 0 = .ok (.aload_n 0, 1) := by decide +kernel
theorem d_Ref_stands_1 : decode b_Ref_stands 1 = .ok (.getfield 242, 3) := by decide +kernel
theorem d_Ref_stands_4 : decode b_Ref_stands 4 = .ok (.ifCond .ne 65, 3) := by decide +kernel
theorem d_Ref_stands_7 : decode b_Ref_stands 7 = .ok (.iconst 0, 1) := by decide +kernel
theorem d_Ref_stands_8 : decode b_Ref_stands 8 = .ok (.istore_n 1, 1) := by decide +kernel
theorem d_Ref_stands_9 : decode b_Ref_stands 9 = .ok (.iload_n 1, 1) := by decide +kernel
theorem d_Ref_stands_10 : decode b_Ref_stands 10 = .ok (.aload_n 0, 1) := by decide +kernel
theorem d_Ref_stands_11 : decode b_Ref_stands 11 = .ok (.getfield 284, 3) := by decide +kernel
theorem d_Ref_stands_14 : decode b_Ref_stands 14 = .ok (.if_icmp .ge 42, 3) := by decide +kernel
theorem d_Ref_stands_17 : decode b_Ref_stands 17 = .ok (.aload_n 0, 1) := by decide +kernel
theorem d_Ref_stands_18 : decode b_Ref_stands 18 = .ok (.getfield 123, 3) := by decide +kernel
theorem d_Ref_stands_21 : decode b_Ref_stands 21 = .ok (.iload_n 1, 1) := by decide +kernel
theorem d_Ref_stands_22 : decode b_Ref_stands 22 = .ok (.aload_n 0, 1) := by decide +kernel
theorem d_Ref_stands_23 : decode b_Ref_stands 23 = .ok (.getfield 111, 3) := by decide +kernel
theorem d_Ref_stands_26 : decode b_Ref_stands 26 = .ok (.iload_n 1, 1) := by decide +kernel
theorem d_Ref_stands_27 : decode b_Ref_stands 27 = .ok (.iaload, 1) := by decide +kernel
theorem d_Ref_stands_28 : decode b_Ref_stands 28 = .ok (.aload_n 0, 1) := by decide +kernel
theorem d_Ref_stands_29 : decode b_Ref_stands 29 = .ok (.getfield 114, 3) := by decide +kernel
theorem d_Ref_stands_32 : decode b_Ref_stands 32 = .ok (.iload_n 1, 1) := by decide +kernel
theorem d_Ref_stands_33 : decode b_Ref_stands 33 = .ok (.iaload, 1) := by decide +kernel
theorem d_Ref_stands_34 : decode b_Ref_stands 34 = .ok (.ior, 1) := by decide +kernel
theorem d_Ref_stands_35 : decode b_Ref_stands 35 = .ok (.aload_n 0, 1) := by decide +kernel
theorem d_Ref_stands_36 : decode b_Ref_stands 36 = .ok (.getfield 117, 3) := by decide +kernel
theorem d_Ref_stands_39 : decode b_Ref_stands 39 = .ok (.iload_n 1, 1) := by decide +kernel
theorem d_Ref_stands_40 : decode b_Ref_stands 40 = .ok (.iaload, 1) := by decide +kernel
theorem d_Ref_stands_41 : decode b_Ref_stands 41 = .ok (.ior, 1) := by decide +kernel
theorem d_Ref_stands_42 : decode b_Ref_stands 42 = .ok (.aload_n 0, 1) := by decide +kernel
theorem d_Ref_stands_43 : decode b_Ref_stands 43 = .ok (.getfield 120, 3) := by decide +kernel
theorem d_Ref_stands_46 : decode b_Ref_stands 46 = .ok (.iload_n 1, 1) := by decide +kernel
theorem d_Ref_stands_47 : decode b_Ref_stands 47 = .ok (.iaload, 1) := by decide +kernel
theorem d_Ref_stands_48 : decode b_Ref_stands 48 = .ok (.ior, 1) := by decide +kernel
theorem d_Ref_stands_49 : decode b_Ref_stands 49 = .ok (.iastore, 1) := by decide +kernel
theorem d_Ref_stands_50 : decode b_Ref_stands 50 = .ok (.iinc 1 1, 3) := by decide +kernel
theorem d_Ref_stands_53 : decode b_Ref_stands 53 = .ok (.goto (-44), 3) := by decide +kernel
theorem d_Ref_stands_56 : decode b_Ref_stands 56 = .ok (.aload_n 0, 1) := by decide +kernel
theorem d_Ref_stands_57 : decode b_Ref_stands 57 = .ok (.invokevirtual 304, 3) := by decide +kernel
theorem d_Ref_stands_60 : decode b_Ref_stands 60 = .ok (.ifCond .ne 7, 3) := by decide +kernel
theorem d_Ref_stands_63 : decode b_Ref_stands 63 = .ok (.iconst 1, 1) := by decide +kernel
theorem d_Ref_stands_64 : decode b_Ref_stands 64 = .ok (.goto 4, 3) := by decide +kernel
theorem d_Ref_stands_67 : decode b_Ref_stands 67 = .ok (.iconst 0, 1) := by decide +kernel
theorem d_Ref_stands_68 : decode b_Ref_stands 68 = .ok (.ireturn, 1) := by decide +kernel
theorem d_Ref_stands_69 : decode b_Ref_stands 69 = .ok (.aload_n 0, 1) := by decide +kernel
theorem d_Ref_stands_70 : decode b_Ref_stands 70 = .ok (.getfield 242, 3) := by decide +kernel
theorem d_Ref_stands_73 : decode b_Ref_stands 73 = .ok (.iconst 3, 1) := by decide +kernel
theorem d_Ref_stands_74 : decode b_Ref_stands 74 = .ok (.if_icmp .ne 8, 3) := by decide +kernel
theorem d_Ref_stands_77 : decode b_Ref_stands 77 = .ok (.aload_n 0, 1) := by decide +kernel
theorem d_Ref_stands_78 : decode b_Ref_stands 78 = .ok (.invokevirtual 307, 3) := by decide +kernel
theorem d_Ref_stands_81 : decode b_Ref_stands 81 = .ok (.ireturn, 1) := by decide +kernel
theorem d_Ref_stands_82 : decode b_Ref_stands 82 = .ok (.iconst 0, 1) := by decide +kernel
theorem d_Ref_stands_83 : decode b_Ref_stands 83 = .ok (.istore_n 1, 1) := by decide +kernel
theorem d_Ref_stands_84 : decode b_Ref_stands 84 = .ok (.iload_n 1, 1) := by decide +kernel
theorem d_Ref_stands_85 : decode b_Ref_stands 85 = .ok (.aload_n 0, 1) := by decide +kernel
theorem d_Ref_stands_86 : decode b_Ref_stands 86 = .ok (.getfield 284, 3) := by decide +kernel
theorem d_Ref_stands_89 : decode b_Ref_stands 89 = .ok (.if_icmp .ge 127, 3) := by decide +kernel
theorem d_Ref_stands_92 : decode b_Ref_stands 92 = .ok (.aload_n 0, 1) := by decide +kernel
theorem d_Ref_stands_93 : decode b_Ref_stands 93 = .ok (.iload_n 1, 1) := by decide +kernel
theorem d_Ref_stands_94 : decode b_Ref_stands 94 = .ok (.invokevirtual 310, 3) := by decide +kernel
theorem d_Ref_stands_97 : decode b_Ref_stands 97 = .ok (.istore_n 2, 1) := by decide +kernel
theorem d_Ref_stands_98 : decode b_Ref_stands 98 = .ok (.aload_n 0, 1) := by decide +kernel
theorem d_Ref_stands_99 : decode b_Ref_stands 99 = .ok (.getfield 123, 3) := by decide +kernel
theorem d_Ref_stands_102 : decode b_Ref_stands 102 = .ok (.iload_n 1, 1) := by decide +kernel
theorem d_Ref_stands_103 : decode b_Ref_stands 103 = .ok (.aload_n 0, 1) := by decide +kernel
theorem d_Ref_stands_104 : decode b_Ref_stands 104 = .ok (.getfield 114, 3) := by decide +kernel
theorem d_Ref_stands_107 : decode b_Ref_stands 107 = .ok (.iload_n 1, 1) := by decide +kernel
theorem d_Ref_stands_108 : decode b_Ref_stands 108 = .ok (.iaload, 1) := by decide +kernel
theorem d_Ref_stands_109 : decode b_Ref_stands 109 = .ok (.aload_n 0, 1) := by decide +kernel
theorem d_Ref_stands_110 : decode b_Ref_stands 110 = .ok (.getfield 117, 3) := by decide +kernel
theorem d_Ref_stands_113 : decode b_Ref_stands 113 = .ok (.iload_n 1, 1) := by decide +kernel
theorem d_Ref_stands_114 : decode b_Ref_stands 114 = .ok (.iaload, 1) := by decide +kernel
theorem d_Ref_stands_115 : decode b_Ref_stands 115 = .ok (.ior, 1) := by decide +kernel
theorem d_Ref_stands_116 : decode b_Ref_stands 116 = .ok (.aload_n 0, 1) := by decide +kernel
theorem d_Ref_stands_117 : decode b_Ref_stands 117 = .ok (.getfield 120, 3) := by decide +kernel
theorem d_Ref_stands_120 : decode b_Ref_stands 120 = .ok (.iload_n 1, 1) := by decide +kernel
theorem d_Ref_stands_121 : decode b_Ref_stands 121 = .ok (.iaload, 1) := by decide +kernel
theorem d_Ref_stands_122 : decode b_Ref_stands 122 = .ok (.ior, 1) := by decide +kernel
theorem d_Ref_stands_123 : decode b_Ref_stands 123 = .ok (.iastore, 1) := by decide +kernel
theorem d_Ref_stands_124 : decode b_Ref_stands 124 = .ok (.iconst 0, 1) := by decide +kernel
theorem d_Ref_stands_125 : decode b_Ref_stands 125 = .ok (.istore_n 3, 1) := by decide +kernel
theorem d_Ref_stands_126 : decode b_Ref_stands 126 = .ok (.iload_n 3, 1) := by decide +kernel
theorem d_Ref_stands_127 : decode b_Ref_stands 127 = .ok (.aload_n 0, 1) := by decide +kernel
theorem d_Ref_stands_128 : decode b_Ref_stands 128 = .ok (.getfield 284, 3) := by decide +kernel
theorem d_Ref_stands_131 : decode b_Ref_stands 131 = .ok (.if_icmp .ge 79, 3) := by decide +kernel
theorem d_Ref_stands_134 : decode b_Ref_stands 134 = .ok (.aload_n 0, 1) := by decide +kernel

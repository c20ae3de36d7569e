theorem d_law_law_286 : decode code 286 = .ok (.invokevirtual 40, 3) := by decide +kernel
theorem d_law_law_289 : decode code 289 = .ok (.if_icmp .eq 193, 3) := by decide +kernel
theorem d_law_law_292 : decode code 292 = .ok (.iconst 0, 1) := by decide +kernel
theorem d_law_law_293 : decode code 293 = .ok (.ireturn, 1) := by decide +kernel
theorem d_law_law_294 : decode code 294 = .ok (.aload_n 1, 1) := by decide +kernel
theorem d_law_law_295 : decode code 295 = .ok (.aload_n 0, 1) := by decide +kernel
theorem d_law_law_296 : decode code 296 = .ok (.iload_n 3, 1) := by decide +kernel
theorem d_law_law_297 : decode code 297 = .ok (.iconst 1, 1) := by decide +kernel
theorem d_law_law_298 : decode code 298 = .ok (.iadd, 1) := by decide +kernel
theorem d_law_law_299 : decode code 299 = .ok (.iaload, 1) := by decide +kernel
theorem d_law_law_300 : decode code 300 = .ok (.invokevirtual 41, 3) := by decide +kernel
theorem d_law_law_303 : decode code 303 = .ok (.aload_n 2, 1) := by decide +kernel
theorem d_law_law_304 : decode code 304 = .ok (.aload_n 0, 1) := by decide +kernel
theorem d_law_law_305 : decode code 305 = .ok (.iload_n 3, 1) := by decide +kernel
theorem d_law_law_306 : decode code 306 = .ok (.iconst 1, 1) := by decide +kernel
theorem d_law_law_307 : decode code 307 = .ok (.iadd, 1) := by decide +kernel
theorem d_law_law_308 : decode code 308 = .ok (.iaload, 1) := by decide +kernel
theorem d_law_law_309 : decode code 309 = .ok (.invokevirtual 44, 3) := by decide +kernel
theorem d_law_law_312 : decode code 312 = .ok (.if_icmp .eq 170, 3) := by decide +kernel
theorem d_law_law_315 : decode code 315 = .ok (.iconst 0, 1) := by decide +kernel
theorem d_law_law_316 : decode code 316 = .ok (.ireturn, 1) := by decide +kernel
theorem d_law_law_317 : decode code 317 = .ok (.aload_n 1, 1) := by decide +kernel
theorem d_law_law_318 : decode code 318 = .ok (.aload_n 0, 1) := by decide +kernel
theorem d_law_law_319 : decode code 319 = .ok (.iload_n 3, 1) := by decide +kernel
theorem d_law_law_320 : decode code 320 = .ok (.iconst 1, 1) := by decide +kernel
theorem d_law_law_321 : decode code 321 = .ok (.iadd, 1) := by decide +kernel
theorem d_law_law_322 : decode code 322 = .ok (.iaload, 1) := by decide +kernel
theorem d_law_law_323 : decode code 323 = .ok (.aload_n 0, 1) := by decide +kernel
theorem d_law_law_324 : decode code 324 = .ok (.iload_n 3, 1) := by decide +kernel
theorem d_law_law_325 : decode code 325 = .ok (.iconst 2, 1) := by decide +kernel
theorem d_law_law_326 : decode code 326 = .ok (.iadd, 1) := by decide +kernel
theorem d_law_law_327 : decode code 327 = .ok (.iaload, 1) := by decide +kernel
theorem d_law_law_328 : decode code 328 = .ok (.aload_n 0, 1) := by decide +kernel
theorem d_law_law_329 : decode code 329 = .ok (.iload_n 3, 1) := by decide +kernel
theorem d_law_law_330 : decode code 330 = .ok (.iconst 3, 1) := by decide +kernel
theorem d_law_law_331 : decode code 331 = .ok (.iadd, 1) := by decide +kernel
theorem d_law_law_332 : decode code 332 = .ok (.iaload, 1) := by decide +kernel
theorem d_law_law_333 : decode code 333 = .ok (.invokevirtual 45, 3) := by decide +kernel
theorem d_law_law_336 : decode code 336 = .ok (.aload_n 2, 1) := by decide +kernel
theorem d_law_law_337 : decode code 337 = .ok (.aload_n 0, 1) := by decide +kernel
theorem d_law_law_338 : decode code 338 = .ok (.iload_n 3, 1) := by decide +kernel
theorem d_law_law_339 : decode code 339 = .ok (.iconst 1, 1) := by decide +kernel
theorem d_law_law_340 : decode code 340 = .ok (.iadd, 1) := by decide +kernel
theorem d_law_law_341 : decode code 341 = .ok (.iaload, 1) := by decide +kernel
theorem d_law_law_342 : decode code 342 = .ok (.aload_n 0, 1) := by decide +kernel
theorem d_law_law_343 : decode code 343 = .ok (.iload_n 3, 1) := by decide +kernel
theorem d_law_law_344 : decode code 344 = .ok (.iconst 2, 1) := by decide +kernel
theorem d_law_law_345 : decode code 345 = .ok (.iadd, 1) := by decide +kernel
theorem d_law_law_346 : decode code 346 = .ok (.iaload, 1) := by decide +kernel
theorem d_law_law_347 : decode code 347 = .ok (.aload_n 0, 1) := by decide +kernel
theorem d_law_law_348 : decode code 348 = .ok (.iload_n 3, 1) := by decide +kernel
theorem d_law_law_349 : decode code 349 = .ok (.iconst 3, 1) := by decide +kernel
theorem d_law_law_350 : decode code 350 = .ok (.iadd, 1) := by decide +kernel
theorem d_law_law_351 : decode code 351 = .ok (.iaload, 1) := by decide +kernel
theorem d_law_law_352 : decode code 352 = .ok (.invokevirtual 48, 3) := by decide +kernel
theorem d_law_law_355 : decode code 355 = .ok (.if_icmp .eq 127, 3) := by decide +kernel
theorem d_law_law_358 : decode code 358 = .ok (.iconst 0, 1) := by decide +kernel
theorem d_law_law_359 : decode code 359 = .ok (.ireturn, 1) := by decide +kernel
theorem d_law_law_360 : decode code 360 = .ok (.aload_n 1, 1) := by decide +kernel
theorem d_law_law_361 : decode code 361 = .ok (.aload_n 0, 1) := by decide +kernel

theorem d_law_law_362 : decode code 362 = .ok (.iload_n 3, 1) := by decide +kernel
theorem d_law_law_363 : decode code 363 = .ok (.iconst 1, 1) := by decide +kernel
theorem d_law_law_364 : decode code 364 = .ok (.iadd, 1) := by decide +kernel
theorem d_law_law_365 : decode code 365 = .ok (.iaload, 1) := by decide +kernel
theorem d_law_law_366 : decode code 366 = .ok (.invokevirtual 49, 3) := by decide +kernel
theorem d_law_law_369 : decode code 369 = .ok (.aload_n 2, 1) := by decide +kernel
theorem d_law_law_370 : decode code 370 = .ok (.aload_n 0, 1) := by decide +kernel
theorem d_law_law_371 : decode code 371 = .ok (.iload_n 3, 1) := by decide +kernel
theorem d_law_law_372 : decode code 372 = .ok (.iconst 1, 1) := by decide +kernel
theorem d_law_law_373 : decode code 373 = .ok (.iadd, 1) := by decide +kernel
theorem d_law_law_374 : decode code 374 = .ok (.iaload, 1) := by decide +kernel
theorem d_law_law_375 : decode code 375 = .ok (.invokevirtual 52, 3) := by decide +kernel
theorem d_law_law_378 : decode code 378 = .ok (.if_icmp .eq 104, 3) := by decide +kernel
theorem d_law_law_381 : decode code 381 = .ok (.iconst 0, 1) := by decide +kernel
theorem d_law_law_382 : decode code 382 = .ok (.ireturn, 1) := by decide +kernel
theorem d_law_law_383 : decode code 383 = .ok (.aload_n 1, 1) := by decide +kernel
theorem d_law_law_384 : decode code 384 = .ok (.aload_n 0, 1) := by decide +kernel
theorem d_law_law_385 : decode code 385 = .ok (.iload_n 3, 1) := by decide +kernel
theorem d_law_law_386 : decode code 386 = .ok (.iconst 1, 1) := by decide +kernel
theorem d_law_law_387 : decode code 387 = .ok (.iadd, 1) := by decide +kernel
theorem d_law_law_388 : decode code 388 = .ok (.iaload, 1) := by decide +kernel
theorem d_law_law_389 : decode code 389 = .ok (.aload_n 0, 1) := by decide +kernel
theorem d_law_law_390 : decode code 390 = .ok (.iload_n 3, 1) := by decide +kernel
theorem d_law_law_391 : decode code 391 = .ok (.iconst 2, 1) := by decide +kernel
theorem d_law_law_392 : decode code 392 = .ok (.iadd, 1) := by decide +kernel
theorem d_law_law_393 : decode code 393 = .ok (.iaload, 1) := by decide +kernel
theorem d_law_law_394 : decode code 394 = .ok (.invokevirtual 53, 3) := by decide +kernel
theorem d_law_law_397 : decode code 397 = .ok (.aload_n 2, 1) := by decide +kernel
theorem d_law_law_398 : decode code 398 = .ok (.aload_n 0, 1) := by decide +kernel
theorem d_law_law_399 : decode code 399 = .ok (.iload_n 3, 1) := by decide +kernel
theorem d_law_law_400 : decode code 400 = .ok (.iconst 1, 1) := by decide +kernel
theorem d_law_law_401 : decode code 401 = .ok (.iadd, 1) := by decide +kernel
theorem d_law_law_402 : decode code 402 = .ok (.iaload, 1) := by decide +kernel
theorem d_law_law_403 : decode code 403 = .ok (.aload_n 0, 1) := by decide +kernel
theorem d_law_law_404 : decode code 404 = .ok (.iload_n 3, 1) := by decide +kernel
theorem d_law_law_405 : decode code 405 = .ok (.iconst 2, 1) := by decide +kernel
theorem d_law_law_406 : decode code 406 = .ok (.iadd, 1) := by decide +kernel
theorem d_law_law_407 : decode code 407 = .ok (.iaload, 1) := by decide +kernel
theorem d_law_law_408 : decode code 408 = .ok (.invokevirtual 57, 3) := by decide +kernel
theorem d_law_law_411 : decode code 411 = .ok (.if_icmp .eq 71, 3) := by decide +kernel
theorem d_law_law_414 : decode code 414 = .ok (.iconst 0, 1) := by decide +kernel
theorem d_law_law_415 : decode code 415 = .ok (.ireturn, 1) := by decide +kernel
theorem d_law_law_416 : decode code 416 = .ok (.aload_n 1, 1) := by decide +kernel
theorem d_law_law_417 : decode code 417 = .ok (.invokevirtual 58, 3) := by decide +kernel
theorem d_law_law_420 : decode code 420 = .ok (.aload_n 2, 1) := by decide +kernel
theorem d_law_law_421 : decode code 421 = .ok (.invokevirtual 61, 3) := by decide +kernel
theorem d_law_law_424 : decode code 424 = .ok (.if_icmp .eq 58, 3) := by decide +kernel
theorem d_law_law_427 : decode code 427 = .ok (.iconst 0, 1) := by decide +kernel
theorem d_law_law_428 : decode code 428 = .ok (.ireturn, 1) := by decide +kernel
theorem d_law_law_429 : decode code 429 = .ok (.aload_n 1, 1) := by decide +kernel
theorem d_law_law_430 : decode code 430 = .ok (.aload_n 0, 1) := by decide +kernel
theorem d_law_law_431 : decode code 431 = .ok (.iload_n 3, 1) := by decide +kernel
theorem d_law_law_432 : decode code 432 = .ok (.iconst 1, 1) := by decide +kernel
theorem d_law_law_433 : decode code 433 = .ok (.iadd, 1) := by decide +kernel
theorem d_law_law_434 : decode code 434 = .ok (.iaload, 1) := by decide +kernel
theorem d_law_law_435 : decode code 435 = .ok (.aload_n 0, 1) := by decide +kernel
theorem d_law_law_436 : decode code 436 = .ok (.iload_n 3, 1) := by decide +kernel
theorem d_law_law_437 : decode code 437 = .ok (.iconst 2, 1) := by decide +kernel
theorem d_law_law_438 : decode code 438 = .ok (.iadd, 1) := by decide +kernel
theorem d_law_law_439 : decode code 439 = .ok (.iaload, 1) := by decide +kernel

theorem d_law_law_440 : decode code 440 = .ok (.aload_n 0, 1) := by decide +kernel
theorem d_law_law_441 : decode code 441 = .ok (.iload_n 3, 1) := by decide +kernel
theorem d_law_law_442 : decode code 442 = .ok (.iconst 3, 1) := by decide +kernel
theorem d_law_law_443 : decode code 443 = .ok (.iadd, 1) := by decide +kernel
theorem d_law_law_444 : decode code 444 = .ok (.iaload, 1) := by decide +kernel
theorem d_law_law_445 : decode code 445 = .ok (.aload_n 0, 1) := by decide +kernel
theorem d_law_law_446 : decode code 446 = .ok (.iload_n 3, 1) := by decide +kernel
theorem d_law_law_447 : decode code 447 = .ok (.iconst 4, 1) := by decide +kernel
theorem d_law_law_448 : decode code 448 = .ok (.iadd, 1) := by decide +kernel
theorem d_law_law_449 : decode code 449 = .ok (.iaload, 1) := by decide +kernel
theorem d_law_law_450 : decode code 450 = .ok (.invokevirtual 62, 3) := by decide +kernel
theorem d_law_law_453 : decode code 453 = .ok (.aload_n 2, 1) := by decide +kernel
theorem d_law_law_454 : decode code 454 = .ok (.aload_n 0, 1) := by decide +kernel
theorem d_law_law_455 : decode code 455 = .ok (.iload_n 3, 1) := by decide +kernel
theorem d_law_law_456 : decode code 456 = .ok (.iconst 1, 1) := by decide +kernel
theorem d_law_law_457 : decode code 457 = .ok (.iadd, 1) := by decide +kernel
theorem d_law_law_458 : decode code 458 = .ok (.iaload, 1) := by decide +kernel
theorem d_law_law_459 : decode code 459 = .ok (.aload_n 0, 1) := by decide +kernel
theorem d_law_law_460 : decode code 460 = .ok (.iload_n 3, 1) := by decide +kernel
theorem d_law_law_461 : decode code 461 = .ok (.iconst 2, 1) := by decide +kernel
theorem d_law_law_462 : decode code 462 = .ok (.iadd, 1) := by decide +kernel
theorem d_law_law_463 : decode code 463 = .ok (.iaload, 1) := by decide +kernel
theorem d_law_law_464 : decode code 464 = .ok (.aload_n 0, 1) := by decide +kernel
theorem d_law_law_465 : decode code 465 = .ok (.iload_n 3, 1) := by decide +kernel
theorem d_law_law_466 : decode code 466 = .ok (.iconst 3, 1) := by decide +kernel
theorem d_law_law_467 : decode code 467 = .ok (.iadd, 1) := by decide +kernel
theorem d_law_law_468 : decode code 468 = .ok (.iaload, 1) := by decide +kernel
theorem d_law_law_469 : decode code 469 = .ok (.aload_n 0, 1) := by decide +kernel
theorem d_law_law_470 : decode code 470 = .ok (.iload_n 3, 1) := by decide +kernel
theorem d_law_law_471 : decode code 471 = .ok (.iconst 4, 1) := by decide +kernel
theorem d_law_law_472 : decode code 472 = .ok (.iadd, 1) := by decide +kernel
theorem d_law_law_473 : decode code 473 = .ok (.iaload, 1) := by decide +kernel
theorem d_law_law_474 : decode code 474 = .ok (.invokevirtual 66, 3) := by decide +kernel
theorem d_law_law_477 : decode code 477 = .ok (.if_icmp .eq 5, 3) := by decide +kernel
theorem d_law_law_480 : decode code 480 = .ok (.iconst 0, 1) := by decide +kernel
theorem d_law_law_481 : decode code 481 = .ok (.ireturn, 1) := by decide +kernel
theorem d_law_law_482 : decode code 482 = .ok (.iinc 3 6, 3) := by decide +kernel
theorem d_law_law_485 : decode code 485 = .ok (.goto (-467), 3) := by decide +kernel
theorem d_law_law_488 : decode code 488 = .ok (.iconst 1, 1) := by decide +kernel
theorem d_law_law_489 : decode code 489 = .ok (.ireturn, 1) := by decide +kernel

theorem d_La_law_479 : decode b_La_law 479 = .ok (.istore 6, 2) := by decide +kernel
theorem d_La_law_481 : decode b_La_law 481 = .ok (.aload_n 2, 1) := by decide +kernel
theorem d_La_law_482 : decode b_La_law 482 = .ok (.invokevirtual 53, 3) := by decide +kernel
theorem d_La_law_485 : decode b_La_law 485 = .ok (.iload 5, 2) := by decide +kernel
theorem d_La_law_487 : decode b_La_law 487 = .ok (.if_icmp .eq 5, 3) := by decide +kernel
theorem d_La_law_490 : decode b_La_law 490 = .ok (.iconst 0, 1) := by decide +kernel
theorem d_La_law_491 : decode b_La_law 491 = .ok (.ireturn, 1) := by decide +kernel
theorem d_La_law_492 : decode b_La_law 492 = .ok (.iload 5, 2) := by decide +kernel
theorem d_La_law_494 : decode b_La_law 494 = .ok (.ifCond .ne 15, 3) := by decide +kernel
theorem d_La_law_497 : decode b_La_law 497 = .ok (.aload_n 3, 1) := by decide +kernel
theorem d_La_law_498 : decode b_La_law 498 = .ok (.iconst 0, 1) := by decide +kernel
theorem d_La_law_499 : decode b_La_law 499 = .ok (.laload, 1) := by decide +kernel
theorem d_La_law_500 : decode b_La_law 500 = .ok (.iload 6, 2) := by decide +kernel
theorem d_La_law_502 : decode b_La_law 502 = .ok (.i2l, 1) := by decide +kernel
theorem d_La_law_503 : decode b_La_law 503 = .ok (.lcmp, 1) := by decide +kernel
theorem d_La_law_504 : decode b_La_law 504 = .ok (.ifCond .eq 5, 3) := by decide +kernel
theorem d_La_law_507 : decode b_La_law 507 = .ok (.iconst 0, 1) := by decide +kernel
theorem d_La_law_508 : decode b_La_law 508 = .ok (.ireturn, 1) := by decide +kernel
theorem d_La_law_509 : decode b_La_law 509 = .ok (.goto 28, 3) := by decide +kernel
theorem d_La_law_512 : decode b_La_law 512 = .ok (.aload_n 1, 1) := by decide +kernel
theorem d_La_law_513 : decode b_La_law 513 = .ok (.aload_n 0, 1) := by decide +kernel
theorem d_La_law_514 : decode b_La_law 514 = .ok (.iload 4, 2) := by decide +kernel
theorem d_La_law_516 : decode b_La_law 516 = .ok (.iconst 1, 1) := by decide +kernel
theorem d_La_law_517 : decode b_La_law 517 = .ok (.iadd, 1) := by decide +kernel
theorem d_La_law_518 : decode b_La_law 518 = .ok (.iaload, 1) := by decide +kernel
theorem d_La_law_519 : decode b_La_law 519 = .ok (.invokevirtual 81, 3) := by decide +kernel
theorem d_La_law_522 : decode b_La_law 522 = .ok (.aload_n 2, 1) := by decide +kernel
theorem d_La_law_523 : decode b_La_law 523 = .ok (.aload_n 0, 1) := by decide +kernel
theorem d_La_law_524 : decode b_La_law 524 = .ok (.iload 4, 2) := by decide +kernel
theorem d_La_law_526 : decode b_La_law 526 = .ok (.iconst 1, 1) := by decide +kernel
theorem d_La_law_527 : decode b_La_law 527 = .ok (.iadd, 1) := by decide +kernel
theorem d_La_law_528 : decode b_La_law 528 = .ok (.iaload, 1) := by decide +kernel
theorem d_La_law_529 : decode b_La_law 529 = .ok (.invokevirtual 84, 3) := by decide +kernel
theorem d_La_law_532 : decode b_La_law 532 = .ok (.if_icmp .eq 5, 3) := by decide +kernel
theorem d_La_law_535 : decode b_La_law 535 = .ok (.iconst 0, 1) := by decide +kernel
theorem d_La_law_536 : decode b_La_law 536 = .ok (.ireturn, 1) := by decide +kernel
theorem d_La_law_537 : decode b_La_law 537 = .ok (.iinc 4 6, 3) := by decide +kernel
theorem d_La_law_540 : decode b_La_law 540 = .ok (.goto (-517), 3) := by decide +kernel
theorem d_La_law_543 : decode b_La_law 543 = .ok (.iconst 1, 1) := by decide +kernel
theorem d_La_law_544 : decode b_La_law 544 = .ok (.ireturn, 1) := by decide +kernel

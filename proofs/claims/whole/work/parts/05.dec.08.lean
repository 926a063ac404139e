/-! decode rows -/
theorem xj_A_law_450 : decode xb_A_law 450 = .ok (.iconst 0, 1) := by decide +kernel
theorem xj_A_law_451 : decode xb_A_law 451 = .ok (.laload, 1) := by decide +kernel
theorem xj_A_law_452 : decode xb_A_law 452 = .ok (.iload 6, 2) := by decide +kernel
theorem xj_A_law_454 : decode xb_A_law 454 = .ok (.i2l, 1) := by decide +kernel
theorem xj_A_law_455 : decode xb_A_law 455 = .ok (.lcmp, 1) := by decide +kernel
theorem xj_A_law_456 : decode xb_A_law 456 = .ok (.ifCond .eq 5, 3) := by decide +kernel
theorem xj_A_law_459 : decode xb_A_law 459 = .ok (.iconst 0, 1) := by decide +kernel
theorem xj_A_law_460 : decode xb_A_law 460 = .ok (.ireturn, 1) := by decide +kernel
theorem xj_A_law_461 : decode xb_A_law 461 = .ok (.goto 587, 3) := by decide +kernel
theorem xj_A_law_464 : decode xb_A_law 464 = .ok (.aload_n 1, 1) := by decide +kernel
theorem xj_A_law_465 : decode xb_A_law 465 = .ok (.aload_n 0, 1) := by decide +kernel
theorem xj_A_law_466 : decode xb_A_law 466 = .ok (.iload 4, 2) := by decide +kernel
theorem xj_A_law_468 : decode xb_A_law 468 = .ok (.iconst 1, 1) := by decide +kernel
theorem xj_A_law_469 : decode xb_A_law 469 = .ok (.iadd, 1) := by decide +kernel
theorem xj_A_law_470 : decode xb_A_law 470 = .ok (.iaload, 1) := by decide +kernel
theorem xj_A_law_471 : decode xb_A_law 471 = .ok (.aload_n 0, 1) := by decide +kernel
theorem xj_A_law_472 : decode xb_A_law 472 = .ok (.iload 4, 2) := by decide +kernel
theorem xj_A_law_474 : decode xb_A_law 474 = .ok (.iconst 2, 1) := by decide +kernel
theorem xj_A_law_475 : decode xb_A_law 475 = .ok (.iadd, 1) := by decide +kernel
theorem xj_A_law_476 : decode xb_A_law 476 = .ok (.iaload, 1) := by decide +kernel
theorem xj_A_law_477 : decode xb_A_law 477 = .ok (.aload_n 3, 1) := by decide +kernel
theorem xj_A_law_478 : decode xb_A_law 478 = .ok (.invokestatic 99, 3) := by decide +kernel
theorem xj_A_law_481 : decode xb_A_law 481 = .ok (.istore 5, 2) := by decide +kernel
theorem xj_A_law_483 : decode xb_A_law 483 = .ok (.aload_n 2, 1) := by decide +kernel
theorem xj_A_law_484 : decode xb_A_law 484 = .ok (.aload_n 0, 1) := by decide +kernel
theorem xj_A_law_485 : decode xb_A_law 485 = .ok (.iload 4, 2) := by decide +kernel
theorem xj_A_law_487 : decode xb_A_law 487 = .ok (.iconst 1, 1) := by decide +kernel
theorem xj_A_law_488 : decode xb_A_law 488 = .ok (.iadd, 1) := by decide +kernel
theorem xj_A_law_489 : decode xb_A_law 489 = .ok (.iaload, 1) := by decide +kernel
theorem xj_A_law_490 : decode xb_A_law 490 = .ok (.aload_n 0, 1) := by decide +kernel
theorem xj_A_law_491 : decode xb_A_law 491 = .ok (.iload 4, 2) := by decide +kernel
theorem xj_A_law_493 : decode xb_A_law 493 = .ok (.iconst 2, 1) := by decide +kernel
theorem xj_A_law_494 : decode xb_A_law 494 = .ok (.iadd, 1) := by decide +kernel
theorem xj_A_law_495 : decode xb_A_law 495 = .ok (.iaload, 1) := by decide +kernel
theorem xj_A_law_496 : decode xb_A_law 496 = .ok (.invokevirtual 101, 3) := by decide +kernel
theorem xj_A_law_499 : decode xb_A_law 499 = .ok (.istore 6, 2) := by decide +kernel
theorem xj_A_law_501 : decode xb_A_law 501 = .ok (.aload_n 2, 1) := by decide +kernel
theorem xj_A_law_502 : decode xb_A_law 502 = .ok (.invokevirtual 78, 3) := by decide +kernel
theorem xj_A_law_505 : decode xb_A_law 505 = .ok (.iload 5, 2) := by decide +kernel
theorem xj_A_law_507 : decode xb_A_law 507 = .ok (.if_icmp .eq 5, 3) := by decide +kernel
theorem xj_A_law_510 : decode xb_A_law 510 = .ok (.iconst 0, 1) := by decide +kernel
theorem xj_A_law_511 : decode xb_A_law 511 = .ok (.ireturn, 1) := by decide +kernel
theorem xj_A_law_512 : decode xb_A_law 512 = .ok (.iload 5, 2) := by decide +kernel
theorem xj_A_law_514 : decode xb_A_law 514 = .ok (.ifCond .ne 15, 3) := by decide +kernel
theorem xj_A_law_517 : decode xb_A_law 517 = .ok (.aload_n 3, 1) := by decide +kernel
theorem xj_A_law_518 : decode xb_A_law 518 = .ok (.iconst 0, 1) := by decide +kernel
theorem xj_A_law_519 : decode xb_A_law 519 = .ok (.laload, 1) := by decide +kernel
theorem xj_A_law_520 : decode xb_A_law 520 = .ok (.iload 6, 2) := by decide +kernel
theorem xj_A_law_522 : decode xb_A_law 522 = .ok (.i2l, 1) := by decide +kernel
theorem xj_A_law_523 : decode xb_A_law 523 = .ok (.lcmp, 1) := by decide +kernel
theorem xj_A_law_524 : decode xb_A_law 524 = .ok (.ifCond .eq 5, 3) := by decide +kernel
theorem xj_A_law_527 : decode xb_A_law 527 = .ok (.iconst 0, 1) := by decide +kernel
theorem xj_A_law_528 : decode xb_A_law 528 = .ok (.ireturn, 1) := by decide +kernel
theorem xj_A_law_529 : decode xb_A_law 529 = .ok (.goto 519, 3) := by decide +kernel
theorem xj_A_law_532 : decode xb_A_law 532 = .ok (.aload_n 1, 1) := by decide +kernel
theorem xj_A_law_533 : decode xb_A_law 533 = .ok (.aload_n 0, 1) := by decide +kernel
theorem xj_A_law_534 : decode xb_A_law 534 = .ok (.iload 4, 2) := by decide +kernel
theorem xj_A_law_536 : decode xb_A_law 536 = .ok (.iconst 1, 1) := by decide +kernel
theorem xj_A_law_537 : decode xb_A_law 537 = .ok (.iadd, 1) := by decide +kernel
theorem xj_A_law_538 : decode xb_A_law 538 = .ok (.iaload, 1) := by decide +kernel

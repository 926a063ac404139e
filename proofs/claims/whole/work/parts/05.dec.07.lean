/-! decode rows -/
theorem xj_A_law_356 : decode xb_A_law 356 = .ok (.ireturn, 1) := by decide +kernel
theorem xj_A_law_357 : decode xb_A_law 357 = .ok (.goto 691, 3) := by decide +kernel
theorem xj_A_law_360 : decode xb_A_law 360 = .ok (.aload_n 1, 1) := by decide +kernel
theorem xj_A_law_361 : decode xb_A_law 361 = .ok (.aload_n 0, 1) := by decide +kernel
theorem xj_A_law_362 : decode xb_A_law 362 = .ok (.iload 4, 2) := by decide +kernel
theorem xj_A_law_364 : decode xb_A_law 364 = .ok (.iconst 1, 1) := by decide +kernel
theorem xj_A_law_365 : decode xb_A_law 365 = .ok (.iadd, 1) := by decide +kernel
theorem xj_A_law_366 : decode xb_A_law 366 = .ok (.iaload, 1) := by decide +kernel
theorem xj_A_law_367 : decode xb_A_law 367 = .ok (.invokestatic 92, 3) := by decide +kernel
theorem xj_A_law_370 : decode xb_A_law 370 = .ok (.istore 5, 2) := by decide +kernel
theorem xj_A_law_372 : decode xb_A_law 372 = .ok (.aload_n 2, 1) := by decide +kernel
theorem xj_A_law_373 : decode xb_A_law 373 = .ok (.aload_n 0, 1) := by decide +kernel
theorem xj_A_law_374 : decode xb_A_law 374 = .ok (.iload 4, 2) := by decide +kernel
theorem xj_A_law_376 : decode xb_A_law 376 = .ok (.iconst 1, 1) := by decide +kernel
theorem xj_A_law_377 : decode xb_A_law 377 = .ok (.iadd, 1) := by decide +kernel
theorem xj_A_law_378 : decode xb_A_law 378 = .ok (.iaload, 1) := by decide +kernel
theorem xj_A_law_379 : decode xb_A_law 379 = .ok (.invokevirtual 94, 3) := by decide +kernel
theorem xj_A_law_382 : decode xb_A_law 382 = .ok (.aload_n 2, 1) := by decide +kernel
theorem xj_A_law_383 : decode xb_A_law 383 = .ok (.invokevirtual 78, 3) := by decide +kernel
theorem xj_A_law_386 : decode xb_A_law 386 = .ok (.iload 5, 2) := by decide +kernel
theorem xj_A_law_388 : decode xb_A_law 388 = .ok (.if_icmp .eq 5, 3) := by decide +kernel
theorem xj_A_law_391 : decode xb_A_law 391 = .ok (.iconst 0, 1) := by decide +kernel
theorem xj_A_law_392 : decode xb_A_law 392 = .ok (.ireturn, 1) := by decide +kernel
theorem xj_A_law_393 : decode xb_A_law 393 = .ok (.goto 655, 3) := by decide +kernel
theorem xj_A_law_396 : decode xb_A_law 396 = .ok (.aload_n 1, 1) := by decide +kernel
theorem xj_A_law_397 : decode xb_A_law 397 = .ok (.aload_n 0, 1) := by decide +kernel
theorem xj_A_law_398 : decode xb_A_law 398 = .ok (.iload 4, 2) := by decide +kernel
theorem xj_A_law_400 : decode xb_A_law 400 = .ok (.iconst 1, 1) := by decide +kernel
theorem xj_A_law_401 : decode xb_A_law 401 = .ok (.iadd, 1) := by decide +kernel
theorem xj_A_law_402 : decode xb_A_law 402 = .ok (.iaload, 1) := by decide +kernel
theorem xj_A_law_403 : decode xb_A_law 403 = .ok (.aload_n 0, 1) := by decide +kernel
theorem xj_A_law_404 : decode xb_A_law 404 = .ok (.iload 4, 2) := by decide +kernel
theorem xj_A_law_406 : decode xb_A_law 406 = .ok (.iconst 2, 1) := by decide +kernel
theorem xj_A_law_407 : decode xb_A_law 407 = .ok (.iadd, 1) := by decide +kernel
theorem xj_A_law_408 : decode xb_A_law 408 = .ok (.iaload, 1) := by decide +kernel
theorem xj_A_law_409 : decode xb_A_law 409 = .ok (.aload_n 3, 1) := by decide +kernel
theorem xj_A_law_410 : decode xb_A_law 410 = .ok (.invokestatic 95, 3) := by decide +kernel
theorem xj_A_law_413 : decode xb_A_law 413 = .ok (.istore 5, 2) := by decide +kernel
theorem xj_A_law_415 : decode xb_A_law 415 = .ok (.aload_n 2, 1) := by decide +kernel
theorem xj_A_law_416 : decode xb_A_law 416 = .ok (.aload_n 0, 1) := by decide +kernel
theorem xj_A_law_417 : decode xb_A_law 417 = .ok (.iload 4, 2) := by decide +kernel
theorem xj_A_law_419 : decode xb_A_law 419 = .ok (.iconst 1, 1) := by decide +kernel
theorem xj_A_law_420 : decode xb_A_law 420 = .ok (.iadd, 1) := by decide +kernel
theorem xj_A_law_421 : decode xb_A_law 421 = .ok (.iaload, 1) := by decide +kernel
theorem xj_A_law_422 : decode xb_A_law 422 = .ok (.aload_n 0, 1) := by decide +kernel
theorem xj_A_law_423 : decode xb_A_law 423 = .ok (.iload 4, 2) := by decide +kernel
theorem xj_A_law_425 : decode xb_A_law 425 = .ok (.iconst 2, 1) := by decide +kernel
theorem xj_A_law_426 : decode xb_A_law 426 = .ok (.iadd, 1) := by decide +kernel
theorem xj_A_law_427 : decode xb_A_law 427 = .ok (.iaload, 1) := by decide +kernel
theorem xj_A_law_428 : decode xb_A_law 428 = .ok (.invokevirtual 98, 3) := by decide +kernel
theorem xj_A_law_431 : decode xb_A_law 431 = .ok (.istore 6, 2) := by decide +kernel
theorem xj_A_law_433 : decode xb_A_law 433 = .ok (.aload_n 2, 1) := by decide +kernel
theorem xj_A_law_434 : decode xb_A_law 434 = .ok (.invokevirtual 78, 3) := by decide +kernel
theorem xj_A_law_437 : decode xb_A_law 437 = .ok (.iload 5, 2) := by decide +kernel
theorem xj_A_law_439 : decode xb_A_law 439 = .ok (.if_icmp .eq 5, 3) := by decide +kernel
theorem xj_A_law_442 : decode xb_A_law 442 = .ok (.iconst 0, 1) := by decide +kernel
theorem xj_A_law_443 : decode xb_A_law 443 = .ok (.ireturn, 1) := by decide +kernel
theorem xj_A_law_444 : decode xb_A_law 444 = .ok (.iload 5, 2) := by decide +kernel
theorem xj_A_law_446 : decode xb_A_law 446 = .ok (.ifCond .ne 15, 3) := by decide +kernel
theorem xj_A_law_449 : decode xb_A_law 449 = .ok (.aload_n 3, 1) := by decide +kernel

/-! decode rows -/
theorem xj_A_law_539 : decode xb_A_law 539 = .ok (.aload_n 0, 1) := by decide +kernel
theorem xj_A_law_540 : decode xb_A_law 540 = .ok (.iload 4, 2) := by decide +kernel
theorem xj_A_law_542 : decode xb_A_law 542 = .ok (.iconst 2, 1) := by decide +kernel
theorem xj_A_law_543 : decode xb_A_law 543 = .ok (.iadd, 1) := by decide +kernel
theorem xj_A_law_544 : decode xb_A_law 544 = .ok (.iaload, 1) := by decide +kernel
theorem xj_A_law_545 : decode xb_A_law 545 = .ok (.aload_n 3, 1) := by decide +kernel
theorem xj_A_law_546 : decode xb_A_law 546 = .ok (.invokestatic 102, 3) := by decide +kernel
theorem xj_A_law_549 : decode xb_A_law 549 = .ok (.istore 5, 2) := by decide +kernel
theorem xj_A_law_551 : decode xb_A_law 551 = .ok (.aload_n 2, 1) := by decide +kernel
theorem xj_A_law_552 : decode xb_A_law 552 = .ok (.aload_n 0, 1) := by decide +kernel
theorem xj_A_law_553 : decode xb_A_law 553 = .ok (.iload 4, 2) := by decide +kernel
theorem xj_A_law_555 : decode xb_A_law 555 = .ok (.iconst 1, 1) := by decide +kernel
theorem xj_A_law_556 : decode xb_A_law 556 = .ok (.iadd, 1) := by decide +kernel
theorem xj_A_law_557 : decode xb_A_law 557 = .ok (.iaload, 1) := by decide +kernel
theorem xj_A_law_558 : decode xb_A_law 558 = .ok (.aload_n 0, 1) := by decide +kernel
theorem xj_A_law_559 : decode xb_A_law 559 = .ok (.iload 4, 2) := by decide +kernel
theorem xj_A_law_561 : decode xb_A_law 561 = .ok (.iconst 2, 1) := by decide +kernel
theorem xj_A_law_562 : decode xb_A_law 562 = .ok (.iadd, 1) := by decide +kernel
theorem xj_A_law_563 : decode xb_A_law 563 = .ok (.iaload, 1) := by decide +kernel
theorem xj_A_law_564 : decode xb_A_law 564 = .ok (.invokevirtual 104, 3) := by decide +kernel
theorem xj_A_law_567 : decode xb_A_law 567 = .ok (.istore 6, 2) := by decide +kernel
theorem xj_A_law_569 : decode xb_A_law 569 = .ok (.aload_n 2, 1) := by decide +kernel
theorem xj_A_law_570 : decode xb_A_law 570 = .ok (.invokevirtual 78, 3) := by decide +kernel
theorem xj_A_law_573 : decode xb_A_law 573 = .ok (.iload 5, 2) := by decide +kernel
theorem xj_A_law_575 : decode xb_A_law 575 = .ok (.if_icmp .eq 5, 3) := by decide +kernel
theorem xj_A_law_578 : decode xb_A_law 578 = .ok (.iconst 0, 1) := by decide +kernel
theorem xj_A_law_579 : decode xb_A_law 579 = .ok (.ireturn, 1) := by decide +kernel
theorem xj_A_law_580 : decode xb_A_law 580 = .ok (.iload 5, 2) := by decide +kernel
theorem xj_A_law_582 : decode xb_A_law 582 = .ok (.ifCond .ne 15, 3) := by decide +kernel
theorem xj_A_law_585 : decode xb_A_law 585 = .ok (.aload_n 3, 1) := by decide +kernel
theorem xj_A_law_586 : decode xb_A_law 586 = .ok (.iconst 0, 1) := by decide +kernel
theorem xj_A_law_587 : decode xb_A_law 587 = .ok (.laload, 1) := by decide +kernel
theorem xj_A_law_588 : decode xb_A_law 588 = .ok (.iload 6, 2) := by decide +kernel
theorem xj_A_law_590 : decode xb_A_law 590 = .ok (.i2l, 1) := by decide +kernel
theorem xj_A_law_591 : decode xb_A_law 591 = .ok (.lcmp, 1) := by decide +kernel
theorem xj_A_law_592 : decode xb_A_law 592 = .ok (.ifCond .eq 5, 3) := by decide +kernel
theorem xj_A_law_595 : decode xb_A_law 595 = .ok (.iconst 0, 1) := by decide +kernel
theorem xj_A_law_596 : decode xb_A_law 596 = .ok (.ireturn, 1) := by decide +kernel
theorem xj_A_law_597 : decode xb_A_law 597 = .ok (.goto 451, 3) := by decide +kernel
theorem xj_A_law_600 : decode xb_A_law 600 = .ok (.aload_n 1, 1) := by decide +kernel
theorem xj_A_law_601 : decode xb_A_law 601 = .ok (.aload_n 0, 1) := by decide +kernel
theorem xj_A_law_602 : decode xb_A_law 602 = .ok (.iload 4, 2) := by decide +kernel
theorem xj_A_law_604 : decode xb_A_law 604 = .ok (.iconst 1, 1) := by decide +kernel
theorem xj_A_law_605 : decode xb_A_law 605 = .ok (.iadd, 1) := by decide +kernel
theorem xj_A_law_606 : decode xb_A_law 606 = .ok (.iaload, 1) := by decide +kernel
theorem xj_A_law_607 : decode xb_A_law 607 = .ok (.aload_n 3, 1) := by decide +kernel
theorem xj_A_law_608 : decode xb_A_law 608 = .ok (.invokestatic 105, 3) := by decide +kernel
theorem xj_A_law_611 : decode xb_A_law 611 = .ok (.istore 5, 2) := by decide +kernel
theorem xj_A_law_613 : decode xb_A_law 613 = .ok (.aload_n 2, 1) := by decide +kernel
theorem xj_A_law_614 : decode xb_A_law 614 = .ok (.aload_n 0, 1) := by decide +kernel
theorem xj_A_law_615 : decode xb_A_law 615 = .ok (.iload 4, 2) := by decide +kernel
theorem xj_A_law_617 : decode xb_A_law 617 = .ok (.iconst 1, 1) := by decide +kernel
theorem xj_A_law_618 : decode xb_A_law 618 = .ok (.iadd, 1) := by decide +kernel
theorem xj_A_law_619 : decode xb_A_law 619 = .ok (.iaload, 1) := by decide +kernel
theorem xj_A_law_620 : decode xb_A_law 620 = .ok (.invokevirtual 108, 3) := by decide +kernel
theorem xj_A_law_623 : decode xb_A_law 623 = .ok (.istore 6, 2) := by decide +kernel
theorem xj_A_law_625 : decode xb_A_law 625 = .ok (.aload_n 2, 1) := by decide +kernel
theorem xj_A_law_626 : decode xb_A_law 626 = .ok (.invokevirtual 78, 3) := by decide +kernel
theorem xj_A_law_629 : decode xb_A_law 629 = .ok (.iload 5, 2) := by decide +kernel
theorem xj_A_law_631 : decode xb_A_law 631 = .ok (.if_icmp .eq 5, 3) := by decide +kernel

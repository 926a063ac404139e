/-! decode rows -/
theorem xj_A_law_634 : decode xb_A_law 634 = .ok (.iconst 0, 1) := by decide +kernel
theorem xj_A_law_635 : decode xb_A_law 635 = .ok (.ireturn, 1) := by decide +kernel
theorem xj_A_law_636 : decode xb_A_law 636 = .ok (.iload 5, 2) := by decide +kernel
theorem xj_A_law_638 : decode xb_A_law 638 = .ok (.ifCond .ne 22, 3) := by decide +kernel
theorem xj_A_law_641 : decode xb_A_law 641 = .ok (.aload_n 3, 1) := by decide +kernel
theorem xj_A_law_642 : decode xb_A_law 642 = .ok (.iconst 0, 1) := by decide +kernel
theorem xj_A_law_643 : decode xb_A_law 643 = .ok (.laload, 1) := by decide +kernel
theorem xj_A_law_644 : decode xb_A_law 644 = .ok (.iload 6, 2) := by decide +kernel
theorem xj_A_law_646 : decode xb_A_law 646 = .ok (.ifCond .eq 7, 3) := by decide +kernel
theorem xj_A_law_649 : decode xb_A_law 649 = .ok (.lconst 1, 1) := by decide +kernel
theorem xj_A_law_650 : decode xb_A_law 650 = .ok (.goto 4, 3) := by decide +kernel
theorem xj_A_law_653 : decode xb_A_law 653 = .ok (.lconst 0, 1) := by decide +kernel
theorem xj_A_law_654 : decode xb_A_law 654 = .ok (.lcmp, 1) := by decide +kernel
theorem xj_A_law_655 : decode xb_A_law 655 = .ok (.ifCond .eq 5, 3) := by decide +kernel
theorem xj_A_law_658 : decode xb_A_law 658 = .ok (.iconst 0, 1) := by decide +kernel
theorem xj_A_law_659 : decode xb_A_law 659 = .ok (.ireturn, 1) := by decide +kernel
theorem xj_A_law_660 : decode xb_A_law 660 = .ok (.goto 388, 3) := by decide +kernel
theorem xj_A_law_663 : decode xb_A_law 663 = .ok (.aload_n 1, 1) := by decide +kernel
theorem xj_A_law_664 : decode xb_A_law 664 = .ok (.aload_n 0, 1) := by decide +kernel
theorem xj_A_law_665 : decode xb_A_law 665 = .ok (.iload 4, 2) := by decide +kernel
theorem xj_A_law_667 : decode xb_A_law 667 = .ok (.iconst 1, 1) := by decide +kernel
theorem xj_A_law_668 : decode xb_A_law 668 = .ok (.iadd, 1) := by decide +kernel
theorem xj_A_law_669 : decode xb_A_law 669 = .ok (.iaload, 1) := by decide +kernel
theorem xj_A_law_670 : decode xb_A_law 670 = .ok (.aload_n 3, 1) := by decide +kernel
theorem xj_A_law_671 : decode xb_A_law 671 = .ok (.invokestatic 109, 3) := by decide +kernel
theorem xj_A_law_674 : decode xb_A_law 674 = .ok (.istore 5, 2) := by decide +kernel
theorem xj_A_law_676 : decode xb_A_law 676 = .ok (.aload_n 2, 1) := by decide +kernel
theorem xj_A_law_677 : decode xb_A_law 677 = .ok (.aload_n 0, 1) := by decide +kernel
theorem xj_A_law_678 : decode xb_A_law 678 = .ok (.iload 4, 2) := by decide +kernel
theorem xj_A_law_680 : decode xb_A_law 680 = .ok (.iconst 1, 1) := by decide +kernel
theorem xj_A_law_681 : decode xb_A_law 681 = .ok (.iadd, 1) := by decide +kernel
theorem xj_A_law_682 : decode xb_A_law 682 = .ok (.iaload, 1) := by decide +kernel
theorem xj_A_law_683 : decode xb_A_law 683 = .ok (.invokevirtual 111, 3) := by decide +kernel
theorem xj_A_law_686 : decode xb_A_law 686 = .ok (.istore 6, 2) := by decide +kernel
theorem xj_A_law_688 : decode xb_A_law 688 = .ok (.aload_n 2, 1) := by decide +kernel
theorem xj_A_law_689 : decode xb_A_law 689 = .ok (.invokevirtual 78, 3) := by decide +kernel
theorem xj_A_law_692 : decode xb_A_law 692 = .ok (.iload 5, 2) := by decide +kernel
theorem xj_A_law_694 : decode xb_A_law 694 = .ok (.if_icmp .eq 5, 3) := by decide +kernel
theorem xj_A_law_697 : decode xb_A_law 697 = .ok (.iconst 0, 1) := by decide +kernel
theorem xj_A_law_698 : decode xb_A_law 698 = .ok (.ireturn, 1) := by decide +kernel
theorem xj_A_law_699 : decode xb_A_law 699 = .ok (.iload 5, 2) := by decide +kernel
theorem xj_A_law_701 : decode xb_A_law 701 = .ok (.ifCond .ne 15, 3) := by decide +kernel
theorem xj_A_law_704 : decode xb_A_law 704 = .ok (.aload_n 3, 1) := by decide +kernel
theorem xj_A_law_705 : decode xb_A_law 705 = .ok (.iconst 0, 1) := by decide +kernel
theorem xj_A_law_706 : decode xb_A_law 706 = .ok (.laload, 1) := by decide +kernel
theorem xj_A_law_707 : decode xb_A_law 707 = .ok (.iload 6, 2) := by decide +kernel
theorem xj_A_law_709 : decode xb_A_law 709 = .ok (.i2l, 1) := by decide +kernel
theorem xj_A_law_710 : decode xb_A_law 710 = .ok (.lcmp, 1) := by decide +kernel
theorem xj_A_law_711 : decode xb_A_law 711 = .ok (.ifCond .eq 5, 3) := by decide +kernel
theorem xj_A_law_714 : decode xb_A_law 714 = .ok (.iconst 0, 1) := by decide +kernel
theorem xj_A_law_715 : decode xb_A_law 715 = .ok (.ireturn, 1) := by decide +kernel
theorem xj_A_law_716 : decode xb_A_law 716 = .ok (.goto 332, 3) := by decide +kernel
theorem xj_A_law_719 : decode xb_A_law 719 = .ok (.aload_n 1, 1) := by decide +kernel
theorem xj_A_law_720 : decode xb_A_law 720 = .ok (.aload_n 0, 1) := by decide +kernel
theorem xj_A_law_721 : decode xb_A_law 721 = .ok (.iload 4, 2) := by decide +kernel
theorem xj_A_law_723 : decode xb_A_law 723 = .ok (.iconst 1, 1) := by decide +kernel
theorem xj_A_law_724 : decode xb_A_law 724 = .ok (.iadd, 1) := by decide +kernel
theorem xj_A_law_725 : decode xb_A_law 725 = .ok (.iaload, 1) := by decide +kernel
theorem xj_A_law_726 : decode xb_A_law 726 = .ok (.aload_n 0, 1) := by decide +kernel
theorem xj_A_law_727 : decode xb_A_law 727 = .ok (.iload 4, 2) := by decide +kernel

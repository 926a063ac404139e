/-! decode rows -/
theorem xj_A_law_729 : decode xb_A_law 729 = .ok (.iconst 2, 1) := by decide +kernel
theorem xj_A_law_730 : decode xb_A_law 730 = .ok (.iadd, 1) := by decide +kernel
theorem xj_A_law_731 : decode xb_A_law 731 = .ok (.iaload, 1) := by decide +kernel
theorem xj_A_law_732 : decode xb_A_law 732 = .ok (.aload_n 3, 1) := by decide +kernel
theorem xj_A_law_733 : decode xb_A_law 733 = .ok (.invokestatic 112, 3) := by decide +kernel
theorem xj_A_law_736 : decode xb_A_law 736 = .ok (.istore 5, 2) := by decide +kernel
theorem xj_A_law_738 : decode xb_A_law 738 = .ok (.aload_n 2, 1) := by decide +kernel
theorem xj_A_law_739 : decode xb_A_law 739 = .ok (.aload_n 0, 1) := by decide +kernel
theorem xj_A_law_740 : decode xb_A_law 740 = .ok (.iload 4, 2) := by decide +kernel
theorem xj_A_law_742 : decode xb_A_law 742 = .ok (.iconst 1, 1) := by decide +kernel
theorem xj_A_law_743 : decode xb_A_law 743 = .ok (.iadd, 1) := by decide +kernel
theorem xj_A_law_744 : decode xb_A_law 744 = .ok (.iaload, 1) := by decide +kernel
theorem xj_A_law_745 : decode xb_A_law 745 = .ok (.aload_n 0, 1) := by decide +kernel
theorem xj_A_law_746 : decode xb_A_law 746 = .ok (.iload 4, 2) := by decide +kernel
theorem xj_A_law_748 : decode xb_A_law 748 = .ok (.iconst 2, 1) := by decide +kernel
theorem xj_A_law_749 : decode xb_A_law 749 = .ok (.iadd, 1) := by decide +kernel
theorem xj_A_law_750 : decode xb_A_law 750 = .ok (.iaload, 1) := by decide +kernel
theorem xj_A_law_751 : decode xb_A_law 751 = .ok (.invokevirtual 114, 3) := by decide +kernel
theorem xj_A_law_754 : decode xb_A_law 754 = .ok (.istore 6, 2) := by decide +kernel
theorem xj_A_law_756 : decode xb_A_law 756 = .ok (.aload_n 2, 1) := by decide +kernel
theorem xj_A_law_757 : decode xb_A_law 757 = .ok (.invokevirtual 78, 3) := by decide +kernel
theorem xj_A_law_760 : decode xb_A_law 760 = .ok (.iload 5, 2) := by decide +kernel
theorem xj_A_law_762 : decode xb_A_law 762 = .ok (.if_icmp .eq 5, 3) := by decide +kernel
theorem xj_A_law_765 : decode xb_A_law 765 = .ok (.iconst 0, 1) := by decide +kernel
theorem xj_A_law_766 : decode xb_A_law 766 = .ok (.ireturn, 1) := by decide +kernel
theorem xj_A_law_767 : decode xb_A_law 767 = .ok (.iload 5, 2) := by decide +kernel
theorem xj_A_law_769 : decode xb_A_law 769 = .ok (.ifCond .ne 22, 3) := by decide +kernel
theorem xj_A_law_772 : decode xb_A_law 772 = .ok (.aload_n 3, 1) := by decide +kernel
theorem xj_A_law_773 : decode xb_A_law 773 = .ok (.iconst 0, 1) := by decide +kernel
theorem xj_A_law_774 : decode xb_A_law 774 = .ok (.laload, 1) := by decide +kernel
theorem xj_A_law_775 : decode xb_A_law 775 = .ok (.iload 6, 2) := by decide +kernel
theorem xj_A_law_777 : decode xb_A_law 777 = .ok (.ifCond .eq 7, 3) := by decide +kernel
theorem xj_A_law_780 : decode xb_A_law 780 = .ok (.lconst 1, 1) := by decide +kernel
theorem xj_A_law_781 : decode xb_A_law 781 = .ok (.goto 4, 3) := by decide +kernel
theorem xj_A_law_784 : decode xb_A_law 784 = .ok (.lconst 0, 1) := by decide +kernel
theorem xj_A_law_785 : decode xb_A_law 785 = .ok (.lcmp, 1) := by decide +kernel
theorem xj_A_law_786 : decode xb_A_law 786 = .ok (.ifCond .eq 5, 3) := by decide +kernel
theorem xj_A_law_789 : decode xb_A_law 789 = .ok (.iconst 0, 1) := by decide +kernel
theorem xj_A_law_790 : decode xb_A_law 790 = .ok (.ireturn, 1) := by decide +kernel
theorem xj_A_law_791 : decode xb_A_law 791 = .ok (.goto 257, 3) := by decide +kernel
theorem xj_A_law_794 : decode xb_A_law 794 = .ok (.aload_n 1, 1) := by decide +kernel
theorem xj_A_law_795 : decode xb_A_law 795 = .ok (.aload_n 0, 1) := by decide +kernel
theorem xj_A_law_796 : decode xb_A_law 796 = .ok (.iload 4, 2) := by decide +kernel
theorem xj_A_law_798 : decode xb_A_law 798 = .ok (.iconst 1, 1) := by decide +kernel
theorem xj_A_law_799 : decode xb_A_law 799 = .ok (.iadd, 1) := by decide +kernel
theorem xj_A_law_800 : decode xb_A_law 800 = .ok (.iaload, 1) := by decide +kernel
theorem xj_A_law_801 : decode xb_A_law 801 = .ok (.aload_n 3, 1) := by decide +kernel
theorem xj_A_law_802 : decode xb_A_law 802 = .ok (.invokestatic 115, 3) := by decide +kernel
theorem xj_A_law_805 : decode xb_A_law 805 = .ok (.istore 5, 2) := by decide +kernel
theorem xj_A_law_807 : decode xb_A_law 807 = .ok (.aload_n 2, 1) := by decide +kernel
theorem xj_A_law_808 : decode xb_A_law 808 = .ok (.aload_n 0, 1) := by decide +kernel
theorem xj_A_law_809 : decode xb_A_law 809 = .ok (.iload 4, 2) := by decide +kernel
theorem xj_A_law_811 : decode xb_A_law 811 = .ok (.iconst 1, 1) := by decide +kernel
theorem xj_A_law_812 : decode xb_A_law 812 = .ok (.iadd, 1) := by decide +kernel
theorem xj_A_law_813 : decode xb_A_law 813 = .ok (.iaload, 1) := by decide +kernel
theorem xj_A_law_814 : decode xb_A_law 814 = .ok (.invokevirtual 117, 3) := by decide +kernel
theorem xj_A_law_817 : decode xb_A_law 817 = .ok (.istore 6, 2) := by decide +kernel
theorem xj_A_law_819 : decode xb_A_law 819 = .ok (.aload_n 2, 1) := by decide +kernel
theorem xj_A_law_820 : decode xb_A_law 820 = .ok (.invokevirtual 78, 3) := by decide +kernel
theorem xj_A_law_823 : decode xb_A_law 823 = .ok (.iload 5, 2) := by decide +kernel

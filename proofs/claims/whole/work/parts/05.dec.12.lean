/-! decode rows -/
theorem xj_A_law_825 : decode xb_A_law 825 = .ok (.if_icmp .eq 5, 3) := by decide +kernel
theorem xj_A_law_828 : decode xb_A_law 828 = .ok (.iconst 0, 1) := by decide +kernel
theorem xj_A_law_829 : decode xb_A_law 829 = .ok (.ireturn, 1) := by decide +kernel
theorem xj_A_law_830 : decode xb_A_law 830 = .ok (.iload 5, 2) := by decide +kernel
theorem xj_A_law_832 : decode xb_A_law 832 = .ok (.ifCond .ne 15, 3) := by decide +kernel
theorem xj_A_law_835 : decode xb_A_law 835 = .ok (.aload_n 3, 1) := by decide +kernel
theorem xj_A_law_836 : decode xb_A_law 836 = .ok (.iconst 0, 1) := by decide +kernel
theorem xj_A_law_837 : decode xb_A_law 837 = .ok (.laload, 1) := by decide +kernel
theorem xj_A_law_838 : decode xb_A_law 838 = .ok (.iload 6, 2) := by decide +kernel
theorem xj_A_law_840 : decode xb_A_law 840 = .ok (.i2l, 1) := by decide +kernel
theorem xj_A_law_841 : decode xb_A_law 841 = .ok (.lcmp, 1) := by decide +kernel
theorem xj_A_law_842 : decode xb_A_law 842 = .ok (.ifCond .eq 5, 3) := by decide +kernel
theorem xj_A_law_845 : decode xb_A_law 845 = .ok (.iconst 0, 1) := by decide +kernel
theorem xj_A_law_846 : decode xb_A_law 846 = .ok (.ireturn, 1) := by decide +kernel
theorem xj_A_law_847 : decode xb_A_law 847 = .ok (.goto 201, 3) := by decide +kernel
theorem xj_A_law_850 : decode xb_A_law 850 = .ok (.aload_n 1, 1) := by decide +kernel
theorem xj_A_law_851 : decode xb_A_law 851 = .ok (.aload_n 0, 1) := by decide +kernel
theorem xj_A_law_852 : decode xb_A_law 852 = .ok (.iload 4, 2) := by decide +kernel
theorem xj_A_law_854 : decode xb_A_law 854 = .ok (.iconst 1, 1) := by decide +kernel
theorem xj_A_law_855 : decode xb_A_law 855 = .ok (.iadd, 1) := by decide +kernel
theorem xj_A_law_856 : decode xb_A_law 856 = .ok (.iaload, 1) := by decide +kernel
theorem xj_A_law_857 : decode xb_A_law 857 = .ok (.aload_n 3, 1) := by decide +kernel
theorem xj_A_law_858 : decode xb_A_law 858 = .ok (.invokestatic 118, 3) := by decide +kernel
theorem xj_A_law_861 : decode xb_A_law 861 = .ok (.istore 5, 2) := by decide +kernel
theorem xj_A_law_863 : decode xb_A_law 863 = .ok (.aload_n 2, 1) := by decide +kernel
theorem xj_A_law_864 : decode xb_A_law 864 = .ok (.aload_n 0, 1) := by decide +kernel
theorem xj_A_law_865 : decode xb_A_law 865 = .ok (.iload 4, 2) := by decide +kernel
theorem xj_A_law_867 : decode xb_A_law 867 = .ok (.iconst 1, 1) := by decide +kernel
theorem xj_A_law_868 : decode xb_A_law 868 = .ok (.iadd, 1) := by decide +kernel
theorem xj_A_law_869 : decode xb_A_law 869 = .ok (.iaload, 1) := by decide +kernel
theorem xj_A_law_870 : decode xb_A_law 870 = .ok (.invokevirtual 120, 3) := by decide +kernel
theorem xj_A_law_873 : decode xb_A_law 873 = .ok (.istore 6, 2) := by decide +kernel
theorem xj_A_law_875 : decode xb_A_law 875 = .ok (.aload_n 2, 1) := by decide +kernel
theorem xj_A_law_876 : decode xb_A_law 876 = .ok (.invokevirtual 78, 3) := by decide +kernel
theorem xj_A_law_879 : decode xb_A_law 879 = .ok (.iload 5, 2) := by decide +kernel
theorem xj_A_law_881 : decode xb_A_law 881 = .ok (.if_icmp .eq 5, 3) := by decide +kernel
theorem xj_A_law_884 : decode xb_A_law 884 = .ok (.iconst 0, 1) := by decide +kernel
theorem xj_A_law_885 : decode xb_A_law 885 = .ok (.ireturn, 1) := by decide +kernel
theorem xj_A_law_886 : decode xb_A_law 886 = .ok (.iload 5, 2) := by decide +kernel
theorem xj_A_law_888 : decode xb_A_law 888 = .ok (.ifCond .ne 15, 3) := by decide +kernel
theorem xj_A_law_891 : decode xb_A_law 891 = .ok (.aload_n 3, 1) := by decide +kernel
theorem xj_A_law_892 : decode xb_A_law 892 = .ok (.iconst 0, 1) := by decide +kernel
theorem xj_A_law_893 : decode xb_A_law 893 = .ok (.laload, 1) := by decide +kernel
theorem xj_A_law_894 : decode xb_A_law 894 = .ok (.iload 6, 2) := by decide +kernel
theorem xj_A_law_896 : decode xb_A_law 896 = .ok (.i2l, 1) := by decide +kernel
theorem xj_A_law_897 : decode xb_A_law 897 = .ok (.lcmp, 1) := by decide +kernel
theorem xj_A_law_898 : decode xb_A_law 898 = .ok (.ifCond .eq 5, 3) := by decide +kernel
theorem xj_A_law_901 : decode xb_A_law 901 = .ok (.iconst 0, 1) := by decide +kernel
theorem xj_A_law_902 : decode xb_A_law 902 = .ok (.ireturn, 1) := by decide +kernel
theorem xj_A_law_903 : decode xb_A_law 903 = .ok (.goto 145, 3) := by decide +kernel
theorem xj_A_law_906 : decode xb_A_law 906 = .ok (.aload_n 1, 1) := by decide +kernel
theorem xj_A_law_907 : decode xb_A_law 907 = .ok (.aload_n 0, 1) := by decide +kernel
theorem xj_A_law_908 : decode xb_A_law 908 = .ok (.iload 4, 2) := by decide +kernel
theorem xj_A_law_910 : decode xb_A_law 910 = .ok (.iconst 1, 1) := by decide +kernel
theorem xj_A_law_911 : decode xb_A_law 911 = .ok (.iadd, 1) := by decide +kernel
theorem xj_A_law_912 : decode xb_A_law 912 = .ok (.iaload, 1) := by decide +kernel
theorem xj_A_law_913 : decode xb_A_law 913 = .ok (.aload_n 0, 1) := by decide +kernel
theorem xj_A_law_914 : decode xb_A_law 914 = .ok (.iload 4, 2) := by decide +kernel
theorem xj_A_law_916 : decode xb_A_law 916 = .ok (.iconst 2, 1) := by decide +kernel
theorem xj_A_law_917 : decode xb_A_law 917 = .ok (.iadd, 1) := by decide +kernel

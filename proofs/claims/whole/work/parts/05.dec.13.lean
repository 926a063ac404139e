/-! decode rows -/
theorem xj_A_law_918 : decode xb_A_law 918 = .ok (.iaload, 1) := by decide +kernel
theorem xj_A_law_919 : decode xb_A_law 919 = .ok (.aload_n 0, 1) := by decide +kernel
theorem xj_A_law_920 : decode xb_A_law 920 = .ok (.iload 4, 2) := by decide +kernel
theorem xj_A_law_922 : decode xb_A_law 922 = .ok (.iconst 3, 1) := by decide +kernel
theorem xj_A_law_923 : decode xb_A_law 923 = .ok (.iadd, 1) := by decide +kernel
theorem xj_A_law_924 : decode xb_A_law 924 = .ok (.iaload, 1) := by decide +kernel
theorem xj_A_law_925 : decode xb_A_law 925 = .ok (.invokestatic 121, 3) := by decide +kernel
theorem xj_A_law_928 : decode xb_A_law 928 = .ok (.istore 5, 2) := by decide +kernel
theorem xj_A_law_930 : decode xb_A_law 930 = .ok (.aload_n 2, 1) := by decide +kernel
theorem xj_A_law_931 : decode xb_A_law 931 = .ok (.aload_n 0, 1) := by decide +kernel
theorem xj_A_law_932 : decode xb_A_law 932 = .ok (.iload 4, 2) := by decide +kernel
theorem xj_A_law_934 : decode xb_A_law 934 = .ok (.iconst 1, 1) := by decide +kernel
theorem xj_A_law_935 : decode xb_A_law 935 = .ok (.iadd, 1) := by decide +kernel
theorem xj_A_law_936 : decode xb_A_law 936 = .ok (.iaload, 1) := by decide +kernel
theorem xj_A_law_937 : decode xb_A_law 937 = .ok (.aload_n 0, 1) := by decide +kernel
theorem xj_A_law_938 : decode xb_A_law 938 = .ok (.iload 4, 2) := by decide +kernel
theorem xj_A_law_940 : decode xb_A_law 940 = .ok (.iconst 2, 1) := by decide +kernel
theorem xj_A_law_941 : decode xb_A_law 941 = .ok (.iadd, 1) := by decide +kernel
theorem xj_A_law_942 : decode xb_A_law 942 = .ok (.iaload, 1) := by decide +kernel
theorem xj_A_law_943 : decode xb_A_law 943 = .ok (.aload_n 0, 1) := by decide +kernel
theorem xj_A_law_944 : decode xb_A_law 944 = .ok (.iload 4, 2) := by decide +kernel
theorem xj_A_law_946 : decode xb_A_law 946 = .ok (.iconst 3, 1) := by decide +kernel
theorem xj_A_law_947 : decode xb_A_law 947 = .ok (.iadd, 1) := by decide +kernel
theorem xj_A_law_948 : decode xb_A_law 948 = .ok (.iaload, 1) := by decide +kernel
theorem xj_A_law_949 : decode xb_A_law 949 = .ok (.invokevirtual 124, 3) := by decide +kernel
theorem xj_A_law_952 : decode xb_A_law 952 = .ok (.aload_n 2, 1) := by decide +kernel
theorem xj_A_law_953 : decode xb_A_law 953 = .ok (.invokevirtual 78, 3) := by decide +kernel
theorem xj_A_law_956 : decode xb_A_law 956 = .ok (.iload 5, 2) := by decide +kernel
theorem xj_A_law_958 : decode xb_A_law 958 = .ok (.if_icmp .eq 5, 3) := by decide +kernel
theorem xj_A_law_961 : decode xb_A_law 961 = .ok (.iconst 0, 1) := by decide +kernel
theorem xj_A_law_962 : decode xb_A_law 962 = .ok (.ireturn, 1) := by decide +kernel
theorem xj_A_law_963 : decode xb_A_law 963 = .ok (.goto 85, 3) := by decide +kernel
theorem xj_A_law_966 : decode xb_A_law 966 = .ok (.aload_n 1, 1) := by decide +kernel
theorem xj_A_law_967 : decode xb_A_law 967 = .ok (.invokevirtual 125, 3) := by decide +kernel
theorem xj_A_law_970 : decode xb_A_law 970 = .ok (.aload_n 2, 1) := by decide +kernel
theorem xj_A_law_971 : decode xb_A_law 971 = .ok (.invokevirtual 129, 3) := by decide +kernel
theorem xj_A_law_974 : decode xb_A_law 974 = .ok (.if_icmp .eq 74, 3) := by decide +kernel
theorem xj_A_law_977 : decode xb_A_law 977 = .ok (.iconst 0, 1) := by decide +kernel
theorem xj_A_law_978 : decode xb_A_law 978 = .ok (.ireturn, 1) := by decide +kernel
theorem xj_A_law_979 : decode xb_A_law 979 = .ok (.aload_n 1, 1) := by decide +kernel
theorem xj_A_law_980 : decode xb_A_law 980 = .ok (.aload_n 0, 1) := by decide +kernel
theorem xj_A_law_981 : decode xb_A_law 981 = .ok (.iload 4, 2) := by decide +kernel
theorem xj_A_law_983 : decode xb_A_law 983 = .ok (.iconst 1, 1) := by decide +kernel
theorem xj_A_law_984 : decode xb_A_law 984 = .ok (.iadd, 1) := by decide +kernel
theorem xj_A_law_985 : decode xb_A_law 985 = .ok (.iaload, 1) := by decide +kernel
theorem xj_A_law_986 : decode xb_A_law 986 = .ok (.aload_n 3, 1) := by decide +kernel
theorem xj_A_law_987 : decode xb_A_law 987 = .ok (.invokestatic 130, 3) := by decide +kernel
theorem xj_A_law_990 : decode xb_A_law 990 = .ok (.istore 5, 2) := by decide +kernel
theorem xj_A_law_992 : decode xb_A_law 992 = .ok (.aload_n 2, 1) := by decide +kernel
theorem xj_A_law_993 : decode xb_A_law 993 = .ok (.aload_n 0, 1) := by decide +kernel
theorem xj_A_law_994 : decode xb_A_law 994 = .ok (.iload 4, 2) := by decide +kernel
theorem xj_A_law_996 : decode xb_A_law 996 = .ok (.iconst 1, 1) := by decide +kernel
theorem xj_A_law_997 : decode xb_A_law 997 = .ok (.iadd, 1) := by decide +kernel
theorem xj_A_law_998 : decode xb_A_law 998 = .ok (.iaload, 1) := by decide +kernel
theorem xj_A_law_999 : decode xb_A_law 999 = .ok (.invokevirtual 132, 3) := by decide +kernel
theorem xj_A_law_1002 : decode xb_A_law 1002 = .ok (.istore 6, 2) := by decide +kernel
theorem xj_A_law_1004 : decode xb_A_law 1004 = .ok (.aload_n 2, 1) := by decide +kernel
theorem xj_A_law_1005 : decode xb_A_law 1005 = .ok (.invokevirtual 78, 3) := by decide +kernel
theorem xj_A_law_1008 : decode xb_A_law 1008 = .ok (.iload 5, 2) := by decide +kernel
theorem xj_A_law_1010 : decode xb_A_law 1010 = .ok (.if_icmp .eq 5, 3) := by decide +kernel

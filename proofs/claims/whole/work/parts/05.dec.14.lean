/-! decode rows -/
theorem xj_A_law_1013 : decode xb_A_law 1013 = .ok (.iconst 0, 1) := by decide +kernel
theorem xj_A_law_1014 : decode xb_A_law 1014 = .ok (.ireturn, 1) := by decide +kernel
theorem xj_A_law_1015 : decode xb_A_law 1015 = .ok (.iload 5, 2) := by decide +kernel
theorem xj_A_law_1017 : decode xb_A_law 1017 = .ok (.ifCond .ne 15, 3) := by decide +kernel
theorem xj_A_law_1020 : decode xb_A_law 1020 = .ok (.aload_n 3, 1) := by decide +kernel
theorem xj_A_law_1021 : decode xb_A_law 1021 = .ok (.iconst 0, 1) := by decide +kernel
theorem xj_A_law_1022 : decode xb_A_law 1022 = .ok (.laload, 1) := by decide +kernel
theorem xj_A_law_1023 : decode xb_A_law 1023 = .ok (.iload 6, 2) := by decide +kernel
theorem xj_A_law_1025 : decode xb_A_law 1025 = .ok (.i2l, 1) := by decide +kernel
theorem xj_A_law_1026 : decode xb_A_law 1026 = .ok (.lcmp, 1) := by decide +kernel
theorem xj_A_law_1027 : decode xb_A_law 1027 = .ok (.ifCond .eq 5, 3) := by decide +kernel
theorem xj_A_law_1030 : decode xb_A_law 1030 = .ok (.iconst 0, 1) := by decide +kernel
theorem xj_A_law_1031 : decode xb_A_law 1031 = .ok (.ireturn, 1) := by decide +kernel
theorem xj_A_law_1032 : decode xb_A_law 1032 = .ok (.goto 16, 3) := by decide +kernel
theorem xj_A_law_1035 : decode xb_A_law 1035 = .ok (.aload_n 1, 1) := by decide +kernel
theorem xj_A_law_1036 : decode xb_A_law 1036 = .ok (.invokevirtual 133, 3) := by decide +kernel
theorem xj_A_law_1039 : decode xb_A_law 1039 = .ok (.aload_n 2, 1) := by decide +kernel
theorem xj_A_law_1040 : decode xb_A_law 1040 = .ok (.invokevirtual 136, 3) := by decide +kernel
theorem xj_A_law_1043 : decode xb_A_law 1043 = .ok (.if_icmp .eq 5, 3) := by decide +kernel
theorem xj_A_law_1046 : decode xb_A_law 1046 = .ok (.iconst 0, 1) := by decide +kernel
theorem xj_A_law_1047 : decode xb_A_law 1047 = .ok (.ireturn, 1) := by decide +kernel
theorem xj_A_law_1048 : decode xb_A_law 1048 = .ok (.iinc 4 4, 3) := by decide +kernel
theorem xj_A_law_1051 : decode xb_A_law 1051 = .ok (.goto (-1028), 3) := by decide +kernel
theorem xj_A_law_1054 : decode xb_A_law 1054 = .ok (.iconst 1, 1) := by decide +kernel
theorem xj_A_law_1055 : decode xb_A_law 1055 = .ok (.ireturn, 1) := by decide +kernel

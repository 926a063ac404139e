/-! decode rows -/
theorem xj_A_law_0 : decode xb_A_law 0 = .ok (.new 8, 3) := by decide +kernel
theorem xj_A_law_3 : decode xb_A_law 3 = .ok (.dup, 1) := by decide +kernel
theorem xj_A_law_4 : decode xb_A_law 4 = .ok (.invokespecial 68, 3) := by decide +kernel
theorem xj_A_law_7 : decode xb_A_law 7 = .ok (.astore_n 1, 1) := by decide +kernel
theorem xj_A_law_8 : decode xb_A_law 8 = .ok (.new 69, 3) := by decide +kernel
theorem xj_A_law_11 : decode xb_A_law 11 = .ok (.dup, 1) := by decide +kernel
theorem xj_A_law_12 : decode xb_A_law 12 = .ok (.invokespecial 71, 3) := by decide +kernel
theorem xj_A_law_15 : decode xb_A_law 15 = .ok (.astore_n 2, 1) := by decide +kernel
theorem xj_A_law_16 : decode xb_A_law 16 = .ok (.iconst 1, 1) := by decide +kernel
theorem xj_A_law_17 : decode xb_A_law 17 = .ok (.newarray .long, 2) := by decide +kernel
theorem xj_A_law_19 : decode xb_A_law 19 = .ok (.astore_n 3, 1) := by decide +kernel
theorem xj_A_law_20 : decode xb_A_law 20 = .ok (.iconst 0, 1) := by decide +kernel
theorem xj_A_law_21 : decode xb_A_law 21 = .ok (.istore 4, 2) := by decide +kernel
theorem xj_A_law_23 : decode xb_A_law 23 = .ok (.iload 4, 2) := by decide +kernel
theorem xj_A_law_25 : decode xb_A_law 25 = .ok (.aload_n 0, 1) := by decide +kernel
theorem xj_A_law_26 : decode xb_A_law 26 = .ok (.arraylength, 1) := by decide +kernel
theorem xj_A_law_27 : decode xb_A_law 27 = .ok (.iconst 4, 1) := by decide +kernel
theorem xj_A_law_28 : decode xb_A_law 28 = .ok (.isub, 1) := by decide +kernel
theorem xj_A_law_29 : decode xb_A_law 29 = .ok (.if_icmp .gt 1025, 3) := by decide +kernel
theorem xj_A_law_32 : decode xb_A_law 32 = .ok (.aload_n 0, 1) := by decide +kernel
theorem xj_A_law_33 : decode xb_A_law 33 = .ok (.iload 4, 2) := by decide +kernel
theorem xj_A_law_35 : decode xb_A_law 35 = .ok (.iaload, 1) := by decide +kernel
theorem xj_A_law_36 : decode xb_A_law 36 = .ok (.bipush 31, 2) := by decide +kernel
theorem xj_A_law_38 : decode xb_A_law 38 = .ok (.iand, 1) := by decide +kernel
theorem xj_A_law_39 : decode xb_A_law 39 = .ok (.tableswitch 1009 0 16 #[81, 117, 161, 241, 321, 357, 425, 493, 561, 624, 680, 755, 811, 867, 927, 940, 996], 81) := by decide +kernel
theorem xj_A_law_120 : decode xb_A_law 120 = .ok (.aload_n 1, 1) := by decide +kernel
theorem xj_A_law_121 : decode xb_A_law 121 = .ok (.aload_n 0, 1) := by decide +kernel
theorem xj_A_law_122 : decode xb_A_law 122 = .ok (.iload 4, 2) := by decide +kernel
theorem xj_A_law_124 : decode xb_A_law 124 = .ok (.iconst 1, 1) := by decide +kernel
theorem xj_A_law_125 : decode xb_A_law 125 = .ok (.iadd, 1) := by decide +kernel
theorem xj_A_law_126 : decode xb_A_law 126 = .ok (.iaload, 1) := by decide +kernel
theorem xj_A_law_127 : decode xb_A_law 127 = .ok (.invokestatic 72, 3) := by decide +kernel
theorem xj_A_law_130 : decode xb_A_law 130 = .ok (.istore 5, 2) := by decide +kernel
theorem xj_A_law_132 : decode xb_A_law 132 = .ok (.aload_n 2, 1) := by decide +kernel
theorem xj_A_law_133 : decode xb_A_law 133 = .ok (.aload_n 0, 1) := by decide +kernel
theorem xj_A_law_134 : decode xb_A_law 134 = .ok (.iload 4, 2) := by decide +kernel
theorem xj_A_law_136 : decode xb_A_law 136 = .ok (.iconst 1, 1) := by decide +kernel
theorem xj_A_law_137 : decode xb_A_law 137 = .ok (.iadd, 1) := by decide +kernel
theorem xj_A_law_138 : decode xb_A_law 138 = .ok (.iaload, 1) := by decide +kernel
theorem xj_A_law_139 : decode xb_A_law 139 = .ok (.invokevirtual 77, 3) := by decide +kernel
theorem xj_A_law_142 : decode xb_A_law 142 = .ok (.aload_n 2, 1) := by decide +kernel
theorem xj_A_law_143 : decode xb_A_law 143 = .ok (.invokevirtual 78, 3) := by decide +kernel
theorem xj_A_law_146 : decode xb_A_law 146 = .ok (.iload 5, 2) := by decide +kernel
theorem xj_A_law_148 : decode xb_A_law 148 = .ok (.if_icmp .eq 5, 3) := by decide +kernel
theorem xj_A_law_151 : decode xb_A_law 151 = .ok (.iconst 0, 1) := by decide +kernel
theorem xj_A_law_152 : decode xb_A_law 152 = .ok (.ireturn, 1) := by decide +kernel
theorem xj_A_law_153 : decode xb_A_law 153 = .ok (.goto 895, 3) := by decide +kernel
theorem xj_A_law_156 : decode xb_A_law 156 = .ok (.aload_n 1, 1) := by decide +kernel
theorem xj_A_law_157 : decode xb_A_law 157 = .ok (.aload_n 3, 1) := by decide +kernel
theorem xj_A_law_158 : decode xb_A_law 158 = .ok (.invokestatic 81, 3) := by decide +kernel
theorem xj_A_law_161 : decode xb_A_law 161 = .ok (.istore 5, 2) := by decide +kernel
theorem xj_A_law_163 : decode xb_A_law 163 = .ok (.aload_n 2, 1) := by decide +kernel
theorem xj_A_law_164 : decode xb_A_law 164 = .ok (.invokevirtual 84, 3) := by decide +kernel
theorem xj_A_law_167 : decode xb_A_law 167 = .ok (.istore 6, 2) := by decide +kernel
theorem xj_A_law_169 : decode xb_A_law 169 = .ok (.aload_n 2, 1) := by decide +kernel
theorem xj_A_law_170 : decode xb_A_law 170 = .ok (.invokevirtual 78, 3) := by decide +kernel
theorem xj_A_law_173 : decode xb_A_law 173 = .ok (.iload 5, 2) := by decide +kernel
theorem xj_A_law_175 : decode xb_A_law 175 = .ok (.if_icmp .eq 5, 3) := by decide +kernel
theorem xj_A_law_178 : decode xb_A_law 178 = .ok (.iconst 0, 1) := by decide +kernel
theorem xj_A_law_179 : decode xb_A_law 179 = .ok (.ireturn, 1) := by decide +kernel

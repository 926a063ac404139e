/-! decode rows -/
theorem xj_S_goThrough_0 : decode xb_S_goThrough 0 = .ok (.iconst 0, 1) := by decide +kernel
theorem xj_S_goThrough_1 : decode xb_S_goThrough 1 = .ok (.istore_n 3, 1) := by decide +kernel
theorem xj_S_goThrough_2 : decode xb_S_goThrough 2 = .ok (.iload_n 3, 1) := by decide +kernel
theorem xj_S_goThrough_3 : decode xb_S_goThrough 3 = .ok (.iload_n 2, 1) := by decide +kernel
theorem xj_S_goThrough_4 : decode xb_S_goThrough 4 = .ok (.if_icmp .ge 163, 3) := by decide +kernel
theorem xj_S_goThrough_7 : decode xb_S_goThrough 7 = .ok (.iconst 0, 1) := by decide +kernel
theorem xj_S_goThrough_8 : decode xb_S_goThrough 8 = .ok (.istore 4, 2) := by decide +kernel
theorem xj_S_goThrough_10 : decode xb_S_goThrough 10 = .ok (.iload 4, 2) := by decide +kernel
theorem xj_S_goThrough_12 : decode xb_S_goThrough 12 = .ok (.iload_n 2, 1) := by decide +kernel
theorem xj_S_goThrough_13 : decode xb_S_goThrough 13 = .ok (.if_icmp .ge 148, 3) := by decide +kernel
theorem xj_S_goThrough_16 : decode xb_S_goThrough 16 = .ok (.iload_n 3, 1) := by decide +kernel
theorem xj_S_goThrough_17 : decode xb_S_goThrough 17 = .ok (.bipush 12, 2) := by decide +kernel
theorem xj_S_goThrough_19 : decode xb_S_goThrough 19 = .ok (.imul, 1) := by decide +kernel
theorem xj_S_goThrough_20 : decode xb_S_goThrough 20 = .ok (.iload_n 1, 1) := by decide +kernel
theorem xj_S_goThrough_21 : decode xb_S_goThrough 21 = .ok (.iadd, 1) := by decide +kernel
theorem xj_S_goThrough_22 : decode xb_S_goThrough 22 = .ok (.istore 5, 2) := by decide +kernel
theorem xj_S_goThrough_24 : decode xb_S_goThrough 24 = .ok (.iload_n 1, 1) := by decide +kernel
theorem xj_S_goThrough_25 : decode xb_S_goThrough 25 = .ok (.bipush 12, 2) := by decide +kernel
theorem xj_S_goThrough_27 : decode xb_S_goThrough 27 = .ok (.imul, 1) := by decide +kernel
theorem xj_S_goThrough_28 : decode xb_S_goThrough 28 = .ok (.iload 4, 2) := by decide +kernel
theorem xj_S_goThrough_30 : decode xb_S_goThrough 30 = .ok (.iadd, 1) := by decide +kernel
theorem xj_S_goThrough_31 : decode xb_S_goThrough 31 = .ok (.istore 6, 2) := by decide +kernel
theorem xj_S_goThrough_33 : decode xb_S_goThrough 33 = .ok (.aload_n 0, 1) := by decide +kernel
theorem xj_S_goThrough_34 : decode xb_S_goThrough 34 = .ok (.getfield 9, 3) := by decide +kernel
theorem xj_S_goThrough_37 : decode xb_S_goThrough 37 = .ok (.iload 5, 2) := by decide +kernel
theorem xj_S_goThrough_39 : decode xb_S_goThrough 39 = .ok (.iaload, 1) := by decide +kernel
theorem xj_S_goThrough_40 : decode xb_S_goThrough 40 = .ok (.i2l, 1) := by decide +kernel
theorem xj_S_goThrough_41 : decode xb_S_goThrough 41 = .ok (.aload_n 0, 1) := by decide +kernel
theorem xj_S_goThrough_42 : decode xb_S_goThrough 42 = .ok (.getfield 15, 3) := by decide +kernel
theorem xj_S_goThrough_45 : decode xb_S_goThrough 45 = .ok (.iload 5, 2) := by decide +kernel
theorem xj_S_goThrough_47 : decode xb_S_goThrough 47 = .ok (.iaload, 1) := by decide +kernel
theorem xj_S_goThrough_48 : decode xb_S_goThrough 48 = .ok (.i2l, 1) := by decide +kernel
theorem xj_S_goThrough_49 : decode xb_S_goThrough 49 = .ok (.aload_n 0, 1) := by decide +kernel
theorem xj_S_goThrough_50 : decode xb_S_goThrough 50 = .ok (.getfield 9, 3) := by decide +kernel
theorem xj_S_goThrough_53 : decode xb_S_goThrough 53 = .ok (.iload 6, 2) := by decide +kernel
theorem xj_S_goThrough_55 : decode xb_S_goThrough 55 = .ok (.iaload, 1) := by decide +kernel
theorem xj_S_goThrough_56 : decode xb_S_goThrough 56 = .ok (.i2l, 1) := by decide +kernel
theorem xj_S_goThrough_57 : decode xb_S_goThrough 57 = .ok (.aload_n 0, 1) := by decide +kernel
theorem xj_S_goThrough_58 : decode xb_S_goThrough 58 = .ok (.getfield 15, 3) := by decide +kernel
theorem xj_S_goThrough_61 : decode xb_S_goThrough 61 = .ok (.iload 6, 2) := by decide +kernel
theorem xj_S_goThrough_63 : decode xb_S_goThrough 63 = .ok (.iaload, 1) := by decide +kernel
theorem xj_S_goThrough_64 : decode xb_S_goThrough 64 = .ok (.i2l, 1) := by decide +kernel
theorem xj_S_goThrough_65 : decode xb_S_goThrough 65 = .ok (.invokestatic 38, 3) := by decide +kernel
theorem xj_S_goThrough_68 : decode xb_S_goThrough 68 = .ok (.ifCond .eq 8, 3) := by decide +kernel
theorem xj_S_goThrough_71 : decode xb_S_goThrough 71 = .ok (.iload 6, 2) := by decide +kernel
theorem xj_S_goThrough_73 : decode xb_S_goThrough 73 = .ok (.goto 5, 3) := by decide +kernel
theorem xj_S_goThrough_76 : decode xb_S_goThrough 76 = .ok (.iload 5, 2) := by decide +kernel
theorem xj_S_goThrough_78 : decode xb_S_goThrough 78 = .ok (.istore 7, 2) := by decide +kernel
theorem xj_S_goThrough_80 : decode xb_S_goThrough 80 = .ok (.iload_n 3, 1) := by decide +kernel
theorem xj_S_goThrough_81 : decode xb_S_goThrough 81 = .ok (.bipush 12, 2) := by decide +kernel
theorem xj_S_goThrough_83 : decode xb_S_goThrough 83 = .ok (.imul, 1) := by decide +kernel
theorem xj_S_goThrough_84 : decode xb_S_goThrough 84 = .ok (.iload 4, 2) := by decide +kernel
theorem xj_S_goThrough_86 : decode xb_S_goThrough 86 = .ok (.iadd, 1) := by decide +kernel
theorem xj_S_goThrough_87 : decode xb_S_goThrough 87 = .ok (.istore 8, 2) := by decide +kernel
theorem xj_S_goThrough_89 : decode xb_S_goThrough 89 = .ok (.aload_n 0, 1) := by decide +kernel
theorem xj_S_goThrough_90 : decode xb_S_goThrough 90 = .ok (.getfield 9, 3) := by decide +kernel
theorem xj_S_goThrough_93 : decode xb_S_goThrough 93 = .ok (.iload 7, 2) := by decide +kernel
theorem xj_S_goThrough_95 : decode xb_S_goThrough 95 = .ok (.iaload, 1) := by decide +kernel
theorem xj_S_goThrough_96 : decode xb_S_goThrough 96 = .ok (.i2l, 1) := by decide +kernel
theorem xj_S_goThrough_97 : decode xb_S_goThrough 97 = .ok (.aload_n 0, 1) := by decide +kernel
theorem xj_S_goThrough_98 : decode xb_S_goThrough 98 = .ok (.getfield 15, 3) := by decide +kernel
theorem xj_S_goThrough_101 : decode xb_S_goThrough 101 = .ok (.iload 7, 2) := by decide +kernel
theorem xj_S_goThrough_103 : decode xb_S_goThrough 103 = .ok (.iaload, 1) := by decide +kernel
theorem xj_S_goThrough_104 : decode xb_S_goThrough 104 = .ok (.i2l, 1) := by decide +kernel
theorem xj_S_goThrough_105 : decode xb_S_goThrough 105 = .ok (.aload_n 0, 1) := by decide +kernel
theorem xj_S_goThrough_106 : decode xb_S_goThrough 106 = .ok (.getfield 9, 3) := by decide +kernel
theorem xj_S_goThrough_109 : decode xb_S_goThrough 109 = .ok (.iload 8, 2) := by decide +kernel
theorem xj_S_goThrough_111 : decode xb_S_goThrough 111 = .ok (.iaload, 1) := by decide +kernel
theorem xj_S_goThrough_112 : decode xb_S_goThrough 112 = .ok (.i2l, 1) := by decide +kernel
theorem xj_S_goThrough_113 : decode xb_S_goThrough 113 = .ok (.aload_n 0, 1) := by decide +kernel
theorem xj_S_goThrough_114 : decode xb_S_goThrough 114 = .ok (.getfield 15, 3) := by decide +kernel
theorem xj_S_goThrough_117 : decode xb_S_goThrough 117 = .ok (.iload 8, 2) := by decide +kernel
theorem xj_S_goThrough_119 : decode xb_S_goThrough 119 = .ok (.iaload, 1) := by decide +kernel
theorem xj_S_goThrough_120 : decode xb_S_goThrough 120 = .ok (.i2l, 1) := by decide +kernel
theorem xj_S_goThrough_121 : decode xb_S_goThrough 121 = .ok (.invokestatic 38, 3) := by decide +kernel
theorem xj_S_goThrough_124 : decode xb_S_goThrough 124 = .ok (.ifCond .eq 31, 3) := by decide +kernel
theorem xj_S_goThrough_127 : decode xb_S_goThrough 127 = .ok (.aload_n 0, 1) := by decide +kernel
theorem xj_S_goThrough_128 : decode xb_S_goThrough 128 = .ok (.getfield 9, 3) := by decide +kernel
theorem xj_S_goThrough_131 : decode xb_S_goThrough 131 = .ok (.iload 8, 2) := by decide +kernel
theorem xj_S_goThrough_133 : decode xb_S_goThrough 133 = .ok (.aload_n 0, 1) := by decide +kernel
theorem xj_S_goThrough_134 : decode xb_S_goThrough 134 = .ok (.getfield 9, 3) := by decide +kernel
theorem xj_S_goThrough_137 : decode xb_S_goThrough 137 = .ok (.iload 7, 2) := by decide +kernel
theorem xj_S_goThrough_139 : decode xb_S_goThrough 139 = .ok (.iaload, 1) := by decide +kernel
theorem xj_S_goThrough_140 : decode xb_S_goThrough 140 = .ok (.iastore, 1) := by decide +kernel
theorem xj_S_goThrough_141 : decode xb_S_goThrough 141 = .ok (.aload_n 0, 1) := by decide +kernel
theorem xj_S_goThrough_142 : decode xb_S_goThrough 142 = .ok (.getfield 15, 3) := by decide +kernel
theorem xj_S_goThrough_145 : decode xb_S_goThrough 145 = .ok (.iload 8, 2) := by decide +kernel
theorem xj_S_goThrough_147 : decode xb_S_goThrough 147 = .ok (.aload_n 0, 1) := by decide +kernel
theorem xj_S_goThrough_148 : decode xb_S_goThrough 148 = .ok (.getfield 15, 3) := by decide +kernel
theorem xj_S_goThrough_151 : decode xb_S_goThrough 151 = .ok (.iload 7, 2) := by decide +kernel
theorem xj_S_goThrough_153 : decode xb_S_goThrough 153 = .ok (.iaload, 1) := by decide +kernel
theorem xj_S_goThrough_154 : decode xb_S_goThrough 154 = .ok (.iastore, 1) := by decide +kernel
theorem xj_S_goThrough_155 : decode xb_S_goThrough 155 = .ok (.iinc 4 1, 3) := by decide +kernel
theorem xj_S_goThrough_158 : decode xb_S_goThrough 158 = .ok (.goto (-148), 3) := by decide +kernel
theorem xj_S_goThrough_161 : decode xb_S_goThrough 161 = .ok (.iinc 3 1, 3) := by decide +kernel
theorem xj_S_goThrough_164 : decode xb_S_goThrough 164 = .ok (.goto (-162), 3) := by decide +kernel
theorem xj_S_goThrough_167 : decode xb_S_goThrough 167 = .ok (.return_, 1) := by decide +kernel
theorem xj_S_isLess_0 : decode xb_S_isLess 0 = .ok (.lload_n 0, 1) := by decide +kernel
theorem xj_S_isLess_1 : decode xb_S_isLess 1 = .ok (.lload 6, 2) := by decide +kernel
theorem xj_S_isLess_3 : decode xb_S_isLess 3 = .ok (.lmul, 1) := by decide +kernel
theorem xj_S_isLess_4 : decode xb_S_isLess 4 = .ok (.lload 4, 2) := by decide +kernel
theorem xj_S_isLess_6 : decode xb_S_isLess 6 = .ok (.lload_n 2, 1) := by decide +kernel
theorem xj_S_isLess_7 : decode xb_S_isLess 7 = .ok (.lmul, 1) := by decide +kernel
theorem xj_S_isLess_8 : decode xb_S_isLess 8 = .ok (.lcmp, 1) := by decide +kernel
theorem xj_S_isLess_9 : decode xb_S_isLess 9 = .ok (.ifCond .ge 7, 3) := by decide +kernel
theorem xj_S_isLess_12 : decode xb_S_isLess 12 = .ok (.iconst 1, 1) := by decide +kernel
theorem xj_S_isLess_13 : decode xb_S_isLess 13 = .ok (.goto 4, 3) := by decide +kernel
theorem xj_S_isLess_16 : decode xb_S_isLess 16 = .ok (.iconst 0, 1) := by decide +kernel
theorem xj_S_isLess_17 : decode xb_S_isLess 17 = .ok (.ireturn, 1) := by decide +kernel
theorem xj_S_reduce_0 : decode xb_S_reduce 0 = .ok (.aload_n 0, 1) := by decide +kernel
theorem xj_S_reduce_1 : decode xb_S_reduce 1 = .ok (.getfield 32, 3) := by decide +kernel
theorem xj_S_reduce_4 : decode xb_S_reduce 4 = .ok (.istore_n 1, 1) := by decide +kernel
theorem xj_S_reduce_5 : decode xb_S_reduce 5 = .ok (.aload_n 0, 1) := by decide +kernel
theorem xj_S_reduce_6 : decode xb_S_reduce 6 = .ok (.getfield 35, 3) := by decide +kernel
theorem xj_S_reduce_9 : decode xb_S_reduce 9 = .ok (.istore_n 2, 1) := by decide +kernel
theorem xj_S_reduce_10 : decode xb_S_reduce 10 = .ok (.iconst 0, 1) := by decide +kernel
theorem xj_S_reduce_11 : decode xb_S_reduce 11 = .ok (.istore_n 3, 1) := by decide +kernel
theorem xj_S_reduce_12 : decode xb_S_reduce 12 = .ok (.iload_n 3, 1) := by decide +kernel
theorem xj_S_reduce_13 : decode xb_S_reduce 13 = .ok (.bipush 64, 2) := by decide +kernel
theorem xj_S_reduce_15 : decode xb_S_reduce 15 = .ok (.if_icmp .ge 23, 3) := by decide +kernel
theorem xj_S_reduce_18 : decode xb_S_reduce 18 = .ok (.iload_n 2, 1) := by decide +kernel
theorem xj_S_reduce_19 : decode xb_S_reduce 19 = .ok (.ifCond .eq 19, 3) := by decide +kernel
theorem xj_S_reduce_22 : decode xb_S_reduce 22 = .ok (.iload_n 1, 1) := by decide +kernel
theorem xj_S_reduce_23 : decode xb_S_reduce 23 = .ok (.iload_n 2, 1) := by decide +kernel
theorem xj_S_reduce_24 : decode xb_S_reduce 24 = .ok (.irem, 1) := by decide +kernel
theorem xj_S_reduce_25 : decode xb_S_reduce 25 = .ok (.istore 4, 2) := by decide +kernel
theorem xj_S_reduce_27 : decode xb_S_reduce 27 = .ok (.iload_n 2, 1) := by decide +kernel
theorem xj_S_reduce_28 : decode xb_S_reduce 28 = .ok (.istore_n 1, 1) := by decide +kernel
theorem xj_S_reduce_29 : decode xb_S_reduce 29 = .ok (.iload 4, 2) := by decide +kernel
theorem xj_S_reduce_31 : decode xb_S_reduce 31 = .ok (.istore_n 2, 1) := by decide +kernel
theorem xj_S_reduce_32 : decode xb_S_reduce 32 = .ok (.iinc 3 1, 3) := by decide +kernel
theorem xj_S_reduce_35 : decode xb_S_reduce 35 = .ok (.goto (-23), 3) := by decide +kernel
theorem xj_S_reduce_38 : decode xb_S_reduce 38 = .ok (.iload_n 1, 1) := by decide +kernel
theorem xj_S_reduce_39 : decode xb_S_reduce 39 = .ok (.iconst 1, 1) := by decide +kernel
theorem xj_S_reduce_40 : decode xb_S_reduce 40 = .ok (.if_icmp .le 23, 3) := by decide +kernel
theorem xj_S_reduce_43 : decode xb_S_reduce 43 = .ok (.aload_n 0, 1) := by decide +kernel
theorem xj_S_reduce_44 : decode xb_S_reduce 44 = .ok (.dup, 1) := by decide +kernel
theorem xj_S_reduce_45 : decode xb_S_reduce 45 = .ok (.getfield 32, 3) := by decide +kernel
theorem xj_S_reduce_48 : decode xb_S_reduce 48 = .ok (.iload_n 1, 1) := by decide +kernel
theorem xj_S_reduce_49 : decode xb_S_reduce 49 = .ok (.idiv, 1) := by decide +kernel
theorem xj_S_reduce_50 : decode xb_S_reduce 50 = .ok (.putfield 32, 3) := by decide +kernel
theorem xj_S_reduce_53 : decode xb_S_reduce 53 = .ok (.aload_n 0, 1) := by decide +kernel
theorem xj_S_reduce_54 : decode xb_S_reduce 54 = .ok (.dup, 1) := by decide +kernel
theorem xj_S_reduce_55 : decode xb_S_reduce 55 = .ok (.getfield 35, 3) := by decide +kernel
theorem xj_S_reduce_58 : decode xb_S_reduce 58 = .ok (.iload_n 1, 1) := by decide +kernel
theorem xj_S_reduce_59 : decode xb_S_reduce 59 = .ok (.idiv, 1) := by decide +kernel
theorem xj_S_reduce_60 : decode xb_S_reduce 60 = .ok (.putfield 35, 3) := by decide +kernel
theorem xj_S_reduce_63 : decode xb_S_reduce 63 = .ok (.return_, 1) := by decide +kernel
theorem xj_A_drop_0 : decode xb_A_drop 0 = .ok (.aload_n 2, 1) := by decide +kernel
theorem xj_A_drop_1 : decode xb_A_drop 1 = .ok (.iconst 0, 1) := by decide +kernel
theorem xj_A_drop_2 : decode xb_A_drop 2 = .ok (.aload_n 0, 1) := by decide +kernel
theorem xj_A_drop_3 : decode xb_A_drop 3 = .ok (.iload_n 1, 1) := by decide +kernel
theorem xj_A_drop_4 : decode xb_A_drop 4 = .ok (.invokevirtual 58, 3) := by decide +kernel
theorem xj_A_drop_7 : decode xb_A_drop 7 = .ok (.i2l, 1) := by decide +kernel
theorem xj_A_drop_8 : decode xb_A_drop 8 = .ok (.lastore, 1) := by decide +kernel
theorem xj_A_drop_9 : decode xb_A_drop 9 = .ok (.goto 6, 3) := by decide +kernel
theorem xj_A_drop_12 : decode xb_A_drop 12 = .ok (.astore_n 3, 1) := by decide +kernel
theorem xj_A_drop_13 : decode xb_A_drop 13 = .ok (.iconst 1, 1) := by decide +kernel
theorem xj_A_drop_14 : decode xb_A_drop 14 = .ok (.ireturn, 1) := by decide +kernel
theorem xj_A_drop_15 : decode xb_A_drop 15 = .ok (.iconst 0, 1) := by decide +kernel
theorem xj_A_drop_16 : decode xb_A_drop 16 = .ok (.ireturn, 1) := by decide +kernel
theorem xj_L_drop_0 : decode xb_L_drop 0 = .ok (.aload_n 0, 1) := by decide +kernel
theorem xj_L_drop_1 : decode xb_L_drop 1 = .ok (.invokevirtual 94, 3) := by decide +kernel
theorem xj_L_drop_4 : decode xb_L_drop 4 = .ok (.aload_n 0, 1) := by decide +kernel
theorem xj_L_drop_5 : decode xb_L_drop 5 = .ok (.getfield 33, 3) := by decide +kernel
theorem xj_L_drop_8 : decode xb_L_drop 8 = .ok (.aload_n 0, 1) := by decide +kernel
theorem xj_L_drop_9 : decode xb_L_drop 9 = .ok (.getfield 19, 3) := by decide +kernel
theorem xj_L_drop_12 : decode xb_L_drop 12 = .ok (.aload_n 0, 1) := by decide +kernel
theorem xj_L_drop_13 : decode xb_L_drop 13 = .ok (.getfield 12, 3) := by decide +kernel
theorem xj_L_drop_16 : decode xb_L_drop 16 = .ok (.getfield 55, 3) := by decide +kernel
theorem xj_L_drop_19 : decode xb_L_drop 19 = .ok (.invokevirtual 145, 3) := by decide +kernel
theorem xj_L_drop_22 : decode xb_L_drop 22 = .ok (.istore_n 2, 1) := by decide +kernel
theorem xj_L_drop_23 : decode xb_L_drop 23 = .ok (.iload_n 2, 1) := by decide +kernel
theorem xj_L_drop_24 : decode xb_L_drop 24 = .ok (.invokestatic 148, 3) := by decide +kernel
theorem xj_L_drop_27 : decode xb_L_drop 27 = .ok (.istore_n 3, 1) := by decide +kernel
theorem xj_L_drop_28 : decode xb_L_drop 28 = .ok (.iload_n 1, 1) := by decide +kernel
theorem xj_L_drop_29 : decode xb_L_drop 29 = .ok (.iconst (-1), 1) := by decide +kernel
theorem xj_L_drop_30 : decode xb_L_drop 30 = .ok (.if_icmp .ne 5, 3) := by decide +kernel
theorem xj_L_drop_33 : decode xb_L_drop 33 = .ok (.iload_n 3, 1) := by decide +kernel
theorem xj_L_drop_34 : decode xb_L_drop 34 = .ok (.ireturn, 1) := by decide +kernel
theorem xj_L_drop_35 : decode xb_L_drop 35 = .ok (.iload_n 1, 1) := by decide +kernel
theorem xj_L_drop_36 : decode xb_L_drop 36 = .ok (.ifCond .lt 8, 3) := by decide +kernel
theorem xj_L_drop_39 : decode xb_L_drop 39 = .ok (.iload_n 1, 1) := by decide +kernel
theorem xj_L_drop_40 : decode xb_L_drop 40 = .ok (.iload_n 3, 1) := by decide +kernel
theorem xj_L_drop_41 : decode xb_L_drop 41 = .ok (.if_icmp .lt 13, 3) := by decide +kernel
theorem xj_L_drop_44 : decode xb_L_drop 44 = .ok (.new 120, 3) := by decide +kernel
theorem xj_L_drop_47 : decode xb_L_drop 47 = .ok (.dup, 1) := by decide +kernel
theorem xj_L_drop_48 : decode xb_L_drop 48 = .ok (.ldc 154, 2) := by decide +kernel
theorem xj_L_drop_50 : decode xb_L_drop 50 = .ok (.invokespecial 124, 3) := by decide +kernel
theorem xj_L_drop_53 : decode xb_L_drop 53 = .ok (.athrow, 1) := by decide +kernel
theorem xj_L_drop_54 : decode xb_L_drop 54 = .ok (.iload_n 2, 1) := by decide +kernel
theorem xj_L_drop_55 : decode xb_L_drop 55 = .ok (.iload_n 1, 1) := by decide +kernel
theorem xj_L_drop_56 : decode xb_L_drop 56 = .ok (.invokestatic 156, 3) := by decide +kernel
theorem xj_L_drop_59 : decode xb_L_drop 59 = .ok (.ireturn, 1) := by decide +kernel
theorem xj_D_find_0 : decode xb_D_find 0 = .ok (.aload_n 0, 1) := by decide +kernel
theorem xj_D_find_1 : decode xb_D_find 1 = .ok (.iload_n 2, 1) := by decide +kernel
theorem xj_D_find_2 : decode xb_D_find 2 = .ok (.iconst 1, 1) := by decide +kernel
theorem xj_D_find_3 : decode xb_D_find 3 = .ok (.iadd, 1) := by decide +kernel
theorem xj_D_find_4 : decode xb_D_find 4 = .ok (.putfield 7, 3) := by decide +kernel
theorem xj_D_find_7 : decode xb_D_find 7 = .ok (.aload_n 0, 1) := by decide +kernel
theorem xj_D_find_8 : decode xb_D_find 8 = .ok (.iconst 0, 1) := by decide +kernel
theorem xj_D_find_9 : decode xb_D_find 9 = .ok (.putfield 13, 3) := by decide +kernel
theorem xj_D_find_12 : decode xb_D_find 12 = .ok (.aload_n 0, 1) := by decide +kernel
theorem xj_D_find_13 : decode xb_D_find 13 = .ok (.aload_n 1, 1) := by decide +kernel
theorem xj_D_find_14 : decode xb_D_find 14 = .ok (.iload_n 2, 1) := by decide +kernel
theorem xj_D_find_15 : decode xb_D_find 15 = .ok (.iconst 1, 1) := by decide +kernel
theorem xj_D_find_16 : decode xb_D_find 16 = .ok (.isub, 1) := by decide +kernel
theorem xj_D_find_17 : decode xb_D_find 17 = .ok (.iconst 0, 1) := by decide +kernel
theorem xj_D_find_18 : decode xb_D_find 18 = .ok (.iconst 0, 1) := by decide +kernel
theorem xj_D_find_19 : decode xb_D_find 19 = .ok (.invokevirtual 16, 3) := by decide +kernel
theorem xj_D_find_22 : decode xb_D_find 22 = .ok (.aload_n 0, 1) := by decide +kernel
theorem xj_D_find_23 : decode xb_D_find 23 = .ok (.getfield 13, 3) := by decide +kernel
theorem xj_D_find_26 : decode xb_D_find 26 = .ok (.ireturn, 1) := by decide +kernel
theorem xj_D_decide_0 : decode xb_D_decide 0 = .ok (.iload 4, 2) := by decide +kernel
theorem xj_D_decide_2 : decode xb_D_decide 2 = .ok (.invokestatic 20, 3) := by decide +kernel
theorem xj_D_decide_5 : decode xb_D_decide 5 = .ok (.aload_n 0, 1) := by decide +kernel
theorem xj_D_decide_6 : decode xb_D_decide 6 = .ok (.getfield 7, 3) := by decide +kernel
theorem xj_D_decide_9 : decode xb_D_decide 9 = .ok (.if_icmp .lt 4, 3) := by decide +kernel
theorem xj_D_decide_12 : decode xb_D_decide 12 = .ok (.return_, 1) := by decide +kernel
theorem xj_D_decide_13 : decode xb_D_decide 13 = .ok (.iload_n 2, 1) := by decide +kernel
theorem xj_D_decide_14 : decode xb_D_decide 14 = .ok (.ifCond .ge 19, 3) := by decide +kernel
theorem xj_D_decide_17 : decode xb_D_decide 17 = .ok (.aload_n 0, 1) := by decide +kernel
theorem xj_D_decide_18 : decode xb_D_decide 18 = .ok (.iload 4, 2) := by decide +kernel
theorem xj_D_decide_20 : decode xb_D_decide 20 = .ok (.invokestatic 20, 3) := by decide +kernel
theorem xj_D_decide_23 : decode xb_D_decide 23 = .ok (.putfield 7, 3) := by decide +kernel
theorem xj_D_decide_26 : decode xb_D_decide 26 = .ok (.aload_n 0, 1) := by decide +kernel
theorem xj_D_decide_27 : decode xb_D_decide 27 = .ok (.iload 4, 2) := by decide +kernel
theorem xj_D_decide_29 : decode xb_D_decide 29 = .ok (.putfield 13, 3) := by decide +kernel
theorem xj_D_decide_32 : decode xb_D_decide 32 = .ok (.return_, 1) := by decide +kernel
theorem xj_D_decide_33 : decode xb_D_decide 33 = .ok (.aload_n 1, 1) := by decide +kernel
theorem xj_D_decide_34 : decode xb_D_decide 34 = .ok (.iload_n 3, 1) := by decide +kernel
theorem xj_D_decide_35 : decode xb_D_decide 35 = .ok (.iload_n 2, 1) := by decide +kernel
theorem xj_D_decide_36 : decode xb_D_decide 36 = .ok (.invokestatic 26, 3) := by decide +kernel
theorem xj_D_decide_39 : decode xb_D_decide 39 = .ok (.ior, 1) := by decide +kernel
theorem xj_D_decide_40 : decode xb_D_decide 40 = .ok (.invokevirtual 31, 3) := by decide +kernel
theorem xj_D_decide_43 : decode xb_D_decide 43 = .ok (.ifCond .eq 19, 3) := by decide +kernel
theorem xj_D_decide_46 : decode xb_D_decide 46 = .ok (.aload_n 0, 1) := by decide +kernel
theorem xj_D_decide_47 : decode xb_D_decide 47 = .ok (.aload_n 1, 1) := by decide +kernel
theorem xj_D_decide_48 : decode xb_D_decide 48 = .ok (.iload_n 2, 1) := by decide +kernel
theorem xj_D_decide_49 : decode xb_D_decide 49 = .ok (.iconst 1, 1) := by decide +kernel
theorem xj_D_decide_50 : decode xb_D_decide 50 = .ok (.isub, 1) := by decide +kernel
theorem xj_D_decide_51 : decode xb_D_decide 51 = .ok (.iload_n 3, 1) := by decide +kernel
theorem xj_D_decide_52 : decode xb_D_decide 52 = .ok (.iload_n 2, 1) := by decide +kernel
theorem xj_D_decide_53 : decode xb_D_decide 53 = .ok (.invokestatic 26, 3) := by decide +kernel
theorem xj_D_decide_56 : decode xb_D_decide 56 = .ok (.ior, 1) := by decide +kernel
theorem xj_D_decide_57 : decode xb_D_decide 57 = .ok (.iload 4, 2) := by decide +kernel
theorem xj_D_decide_59 : decode xb_D_decide 59 = .ok (.invokevirtual 16, 3) := by decide +kernel
theorem xj_D_decide_62 : decode xb_D_decide 62 = .ok (.aload_n 0, 1) := by decide +kernel
theorem xj_D_decide_63 : decode xb_D_decide 63 = .ok (.aload_n 1, 1) := by decide +kernel
theorem xj_D_decide_64 : decode xb_D_decide 64 = .ok (.iload_n 2, 1) := by decide +kernel
theorem xj_D_decide_65 : decode xb_D_decide 65 = .ok (.iconst 1, 1) := by decide +kernel
theorem xj_D_decide_66 : decode xb_D_decide 66 = .ok (.isub, 1) := by decide +kernel
theorem xj_D_decide_67 : decode xb_D_decide 67 = .ok (.iload_n 3, 1) := by decide +kernel
theorem xj_D_decide_68 : decode xb_D_decide 68 = .ok (.iload 4, 2) := by decide +kernel
theorem xj_D_decide_70 : decode xb_D_decide 70 = .ok (.iload_n 2, 1) := by decide +kernel
theorem xj_D_decide_71 : decode xb_D_decide 71 = .ok (.invokestatic 26, 3) := by decide +kernel
theorem xj_D_decide_74 : decode xb_D_decide 74 = .ok (.ior, 1) := by decide +kernel
theorem xj_D_decide_75 : decode xb_D_decide 75 = .ok (.invokevirtual 16, 3) := by decide +kernel
theorem xj_D_decide_78 : decode xb_D_decide 78 = .ok (.return_, 1) := by decide +kernel
theorem xj_A_offer_0 : decode xb_A_offer 0 = .ok (.aload_n 0, 1) := by decide +kernel
theorem xj_A_offer_1 : decode xb_A_offer 1 = .ok (.iload_n 1, 1) := by decide +kernel
theorem xj_A_offer_2 : decode xb_A_offer 2 = .ok (.iload_n 2, 1) := by decide +kernel
theorem xj_A_offer_3 : decode xb_A_offer 3 = .ok (.iload_n 3, 1) := by decide +kernel
theorem xj_A_offer_4 : decode xb_A_offer 4 = .ok (.invokevirtual 61, 3) := by decide +kernel
theorem xj_A_offer_7 : decode xb_A_offer 7 = .ok (.goto 11, 3) := by decide +kernel
theorem xj_A_offer_10 : decode xb_A_offer 10 = .ok (.astore 4, 2) := by decide +kernel
theorem xj_A_offer_12 : decode xb_A_offer 12 = .ok (.iconst 1, 1) := by decide +kernel
theorem xj_A_offer_13 : decode xb_A_offer 13 = .ok (.ireturn, 1) := by decide +kernel
theorem xj_A_offer_14 : decode xb_A_offer 14 = .ok (.astore 4, 2) := by decide +kernel
theorem xj_A_offer_16 : decode xb_A_offer 16 = .ok (.iconst 2, 1) := by decide +kernel
theorem xj_A_offer_17 : decode xb_A_offer 17 = .ok (.ireturn, 1) := by decide +kernel
theorem xj_A_offer_18 : decode xb_A_offer 18 = .ok (.iconst 0, 1) := by decide +kernel
theorem xj_A_offer_19 : decode xb_A_offer 19 = .ok (.ireturn, 1) := by decide +kernel
theorem xj_L_offer_0 : decode xb_L_offer 0 = .ok (.aload_n 0, 1) := by decide +kernel
theorem xj_L_offer_1 : decode xb_L_offer 1 = .ok (.iload_n 1, 1) := by decide +kernel
theorem xj_L_offer_2 : decode xb_L_offer 2 = .ok (.invokevirtual 71, 3) := by decide +kernel
theorem xj_L_offer_5 : decode xb_L_offer 5 = .ok (.iload_n 2, 1) := by decide +kernel
theorem xj_L_offer_6 : decode xb_L_offer 6 = .ok (.invokestatic 74, 3) := by decide +kernel
theorem xj_L_offer_9 : decode xb_L_offer 9 = .ok (.iload_n 3, 1) := by decide +kernel
theorem xj_L_offer_10 : decode xb_L_offer 10 = .ok (.invokestatic 81, 3) := by decide +kernel
theorem xj_L_offer_13 : decode xb_L_offer 13 = .ok (.aload_n 0, 1) := by decide +kernel
theorem xj_L_offer_14 : decode xb_L_offer 14 = .ok (.getfield 12, 3) := by decide +kernel
theorem xj_L_offer_17 : decode xb_L_offer 17 = .ok (.bipush 12, 2) := by decide +kernel
theorem xj_L_offer_19 : decode xb_L_offer 19 = .ok (.iload_n 1, 1) := by decide +kernel
theorem xj_L_offer_20 : decode xb_L_offer 20 = .ok (.iload_n 2, 1) := by decide +kernel
theorem xj_L_offer_21 : decode xb_L_offer 21 = .ok (.invokevirtual 77, 3) := by decide +kernel
theorem xj_L_offer_24 : decode xb_L_offer 24 = .ok (.pop, 1) := by decide +kernel
theorem xj_L_offer_25 : decode xb_L_offer 25 = .ok (.aload_n 0, 1) := by decide +kernel
theorem xj_L_offer_26 : decode xb_L_offer 26 = .ok (.getfield 12, 3) := by decide +kernel
theorem xj_L_offer_29 : decode xb_L_offer 29 = .ok (.bipush 12, 2) := by decide +kernel
theorem xj_L_offer_31 : decode xb_L_offer 31 = .ok (.iload_n 1, 1) := by decide +kernel
theorem xj_L_offer_32 : decode xb_L_offer 32 = .ok (.iload_n 3, 1) := by decide +kernel
theorem xj_L_offer_33 : decode xb_L_offer 33 = .ok (.invokevirtual 84, 3) := by decide +kernel
theorem xj_L_offer_36 : decode xb_L_offer 36 = .ok (.pop, 1) := by decide +kernel
theorem xj_L_offer_37 : decode xb_L_offer 37 = .ok (.return_, 1) := by decide +kernel
theorem xj_A_order_0 : decode xb_A_order 0 = .ok (.aload_n 2, 1) := by decide +kernel
theorem xj_A_order_1 : decode xb_A_order 1 = .ok (.iconst 0, 1) := by decide +kernel
theorem xj_A_order_2 : decode xb_A_order 2 = .ok (.aload_n 0, 1) := by decide +kernel
theorem xj_A_order_3 : decode xb_A_order 3 = .ok (.iload_n 1, 1) := by decide +kernel
theorem xj_A_order_4 : decode xb_A_order 4 = .ok (.invokevirtual 65, 3) := by decide +kernel
theorem xj_A_order_7 : decode xb_A_order 7 = .ok (.i2l, 1) := by decide +kernel
theorem xj_A_order_8 : decode xb_A_order 8 = .ok (.lastore, 1) := by decide +kernel
theorem xj_A_order_9 : decode xb_A_order 9 = .ok (.goto 6, 3) := by decide +kernel
theorem xj_A_order_12 : decode xb_A_order 12 = .ok (.astore_n 3, 1) := by decide +kernel
theorem xj_A_order_13 : decode xb_A_order 13 = .ok (.iconst 1, 1) := by decide +kernel
theorem xj_A_order_14 : decode xb_A_order 14 = .ok (.ireturn, 1) := by decide +kernel
theorem xj_A_order_15 : decode xb_A_order 15 = .ok (.iconst 0, 1) := by decide +kernel
theorem xj_A_order_16 : decode xb_A_order 16 = .ok (.ireturn, 1) := by decide +kernel
theorem xj_L_order_0 : decode xb_L_order 0 = .ok (.iload_n 1, 1) := by decide +kernel
theorem xj_L_order_1 : decode xb_L_order 1 = .ok (.ifCond .lt 14, 3) := by decide +kernel
theorem xj_L_order_4 : decode xb_L_order 4 = .ok (.iload_n 1, 1) := by decide +kernel
theorem xj_L_order_5 : decode xb_L_order 5 = .ok (.aload_n 0, 1) := by decide +kernel
theorem xj_L_order_6 : decode xb_L_order 6 = .ok (.getfield 12, 3) := by decide +kernel
theorem xj_L_order_9 : decode xb_L_order 9 = .ok (.getfield 55, 3) := by decide +kernel
theorem xj_L_order_12 : decode xb_L_order 12 = .ok (.if_icmp .lt 13, 3) := by decide +kernel
theorem xj_L_order_15 : decode xb_L_order 15 = .ok (.new 120, 3) := by decide +kernel
theorem xj_L_order_18 : decode xb_L_order 18 = .ok (.dup, 1) := by decide +kernel
theorem xj_L_order_19 : decode xb_L_order 19 = .ok (.ldc 162, 2) := by decide +kernel
theorem xj_L_order_21 : decode xb_L_order 21 = .ok (.invokespecial 124, 3) := by decide +kernel
theorem xj_L_order_24 : decode xb_L_order 24 = .ok (.athrow, 1) := by decide +kernel
theorem xj_L_order_25 : decode xb_L_order 25 = .ok (.aload_n 0, 1) := by decide +kernel
theorem xj_L_order_26 : decode xb_L_order 26 = .ok (.getfield 12, 3) := by decide +kernel
theorem xj_L_order_29 : decode xb_L_order 29 = .ok (.invokevirtual 103, 3) := by decide +kernel
theorem xj_L_order_32 : decode xb_L_order 32 = .ok (.istore_n 2, 1) := by decide +kernel
theorem xj_L_order_33 : decode xb_L_order 33 = .ok (.aload_n 0, 1) := by decide +kernel
theorem xj_L_order_34 : decode xb_L_order 34 = .ok (.invokevirtual 94, 3) := by decide +kernel
theorem xj_L_order_37 : decode xb_L_order 37 = .ok (.aload_n 0, 1) := by decide +kernel
theorem xj_L_order_38 : decode xb_L_order 38 = .ok (.getfield 19, 3) := by decide +kernel
theorem xj_L_order_41 : decode xb_L_order 41 = .ok (.iload_n 2, 1) := by decide +kernel
theorem xj_L_order_42 : decode xb_L_order 42 = .ok (.invokevirtual 164, 3) := by decide +kernel
theorem xj_L_order_45 : decode xb_L_order 45 = .ok (.iconst 0, 1) := by decide +kernel
theorem xj_L_order_46 : decode xb_L_order 46 = .ok (.istore_n 3, 1) := by decide +kernel
theorem xj_L_order_47 : decode xb_L_order 47 = .ok (.iload_n 3, 1) := by decide +kernel
theorem xj_L_order_48 : decode xb_L_order 48 = .ok (.iload_n 1, 1) := by decide +kernel
theorem xj_L_order_49 : decode xb_L_order 49 = .ok (.if_icmp .ge 25, 3) := by decide +kernel
theorem xj_L_order_52 : decode xb_L_order 52 = .ok (.iload_n 2, 1) := by decide +kernel
theorem xj_L_order_53 : decode xb_L_order 53 = .ok (.aload_n 0, 1) := by decide +kernel
theorem xj_L_order_54 : decode xb_L_order 54 = .ok (.getfield 19, 3) := by decide +kernel
theorem xj_L_order_57 : decode xb_L_order 57 = .ok (.iload_n 2, 1) := by decide +kernel
theorem xj_L_order_58 : decode xb_L_order 58 = .ok (.invokevirtual 167, 3) := by decide +kernel
theorem xj_L_order_61 : decode xb_L_order 61 = .ok (.invokestatic 159, 3) := by decide +kernel
theorem xj_L_order_64 : decode xb_L_order 64 = .ok (.iconst (-1), 1) := by decide +kernel
theorem xj_L_order_65 : decode xb_L_order 65 = .ok (.ixor, 1) := by decide +kernel
theorem xj_L_order_66 : decode xb_L_order 66 = .ok (.iand, 1) := by decide +kernel
theorem xj_L_order_67 : decode xb_L_order 67 = .ok (.istore_n 2, 1) := by decide +kernel
theorem xj_L_order_68 : decode xb_L_order 68 = .ok (.iinc 3 1, 3) := by decide +kernel
theorem xj_L_order_71 : decode xb_L_order 71 = .ok (.goto (-24), 3) := by decide +kernel
theorem xj_L_order_74 : decode xb_L_order 74 = .ok (.aload_n 0, 1) := by decide +kernel
theorem xj_L_order_75 : decode xb_L_order 75 = .ok (.getfield 19, 3) := by decide +kernel
theorem xj_L_order_78 : decode xb_L_order 78 = .ok (.iload_n 2, 1) := by decide +kernel
theorem xj_L_order_79 : decode xb_L_order 79 = .ok (.invokevirtual 167, 3) := by decide +kernel
theorem xj_L_order_82 : decode xb_L_order 82 = .ok (.ireturn, 1) := by decide +kernel
theorem xj_R_bestOf_0 : decode xb_R_bestOf 0 = .ok (.iconst 0, 1) := by decide +kernel
theorem xj_R_bestOf_1 : decode xb_R_bestOf 1 = .ok (.istore_n 2, 1) := by decide +kernel
theorem xj_R_bestOf_2 : decode xb_R_bestOf 2 = .ok (.iload_n 2, 1) := by decide +kernel
theorem xj_R_bestOf_3 : decode xb_R_bestOf 3 = .ok (.bipush 13, 2) := by decide +kernel
theorem xj_R_bestOf_5 : decode xb_R_bestOf 5 = .ok (.if_icmp .ge 28, 3) := by decide +kernel
theorem xj_R_bestOf_8 : decode xb_R_bestOf 8 = .ok (.iload_n 1, 1) := by decide +kernel
theorem xj_R_bestOf_9 : decode xb_R_bestOf 9 = .ok (.iload_n 2, 1) := by decide +kernel
theorem xj_R_bestOf_10 : decode xb_R_bestOf 10 = .ok (.invokestatic 21, 3) := by decide +kernel
theorem xj_R_bestOf_13 : decode xb_R_bestOf 13 = .ok (.ifCond .eq 14, 3) := by decide +kernel
theorem xj_R_bestOf_16 : decode xb_R_bestOf 16 = .ok (.aload_n 0, 1) := by decide +kernel
theorem xj_R_bestOf_17 : decode xb_R_bestOf 17 = .ok (.iload_n 2, 1) := by decide +kernel
theorem xj_R_bestOf_18 : decode xb_R_bestOf 18 = .ok (.iload_n 1, 1) := by decide +kernel
theorem xj_R_bestOf_19 : decode xb_R_bestOf 19 = .ok (.invokevirtual 46, 3) := by decide +kernel
theorem xj_R_bestOf_22 : decode xb_R_bestOf 22 = .ok (.ifCond .ne 5, 3) := by decide +kernel
theorem xj_R_bestOf_25 : decode xb_R_bestOf 25 = .ok (.iload_n 2, 1) := by decide +kernel
theorem xj_R_bestOf_26 : decode xb_R_bestOf 26 = .ok (.ireturn, 1) := by decide +kernel
theorem xj_R_bestOf_27 : decode xb_R_bestOf 27 = .ok (.iinc 2 1, 3) := by decide +kernel
theorem xj_R_bestOf_30 : decode xb_R_bestOf 30 = .ok (.goto (-28), 3) := by decide +kernel
theorem xj_R_bestOf_33 : decode xb_R_bestOf 33 = .ok (.iconst (-1), 1) := by decide +kernel
theorem xj_R_bestOf_34 : decode xb_R_bestOf 34 = .ok (.ireturn, 1) := by decide +kernel
theorem xj_R_isOutdone_0 : decode xb_R_isOutdone 0 = .ok (.iconst 0, 1) := by decide +kernel
theorem xj_R_isOutdone_1 : decode xb_R_isOutdone 1 = .ok (.istore_n 3, 1) := by decide +kernel
theorem xj_R_isOutdone_2 : decode xb_R_isOutdone 2 = .ok (.iload_n 3, 1) := by decide +kernel
theorem xj_R_isOutdone_3 : decode xb_R_isOutdone 3 = .ok (.bipush 13, 2) := by decide +kernel
theorem xj_R_isOutdone_5 : decode xb_R_isOutdone 5 = .ok (.if_icmp .ge 45, 3) := by decide +kernel
theorem xj_R_isOutdone_8 : decode xb_R_isOutdone 8 = .ok (.iload_n 2, 1) := by decide +kernel
theorem xj_R_isOutdone_9 : decode xb_R_isOutdone 9 = .ok (.iload_n 3, 1) := by decide +kernel
theorem xj_R_isOutdone_10 : decode xb_R_isOutdone 10 = .ok (.invokestatic 21, 3) := by decide +kernel
theorem xj_R_isOutdone_13 : decode xb_R_isOutdone 13 = .ok (.ifCond .eq 31, 3) := by decide +kernel
theorem xj_R_isOutdone_16 : decode xb_R_isOutdone 16 = .ok (.aload_n 0, 1) := by decide +kernel
theorem xj_R_isOutdone_17 : decode xb_R_isOutdone 17 = .ok (.getfield 18, 3) := by decide +kernel
theorem xj_R_isOutdone_20 : decode xb_R_isOutdone 20 = .ok (.iload_n 3, 1) := by decide +kernel
theorem xj_R_isOutdone_21 : decode xb_R_isOutdone 21 = .ok (.iaload, 1) := by decide +kernel
theorem xj_R_isOutdone_22 : decode xb_R_isOutdone 22 = .ok (.iload_n 1, 1) := by decide +kernel
theorem xj_R_isOutdone_23 : decode xb_R_isOutdone 23 = .ok (.invokestatic 21, 3) := by decide +kernel
theorem xj_R_isOutdone_26 : decode xb_R_isOutdone 26 = .ok (.ifCond .eq 18, 3) := by decide +kernel
theorem xj_R_isOutdone_29 : decode xb_R_isOutdone 29 = .ok (.aload_n 0, 1) := by decide +kernel
theorem xj_R_isOutdone_30 : decode xb_R_isOutdone 30 = .ok (.getfield 18, 3) := by decide +kernel
theorem xj_R_isOutdone_33 : decode xb_R_isOutdone 33 = .ok (.iload_n 1, 1) := by decide +kernel
theorem xj_R_isOutdone_34 : decode xb_R_isOutdone 34 = .ok (.iaload, 1) := by decide +kernel
theorem xj_R_isOutdone_35 : decode xb_R_isOutdone 35 = .ok (.iload_n 3, 1) := by decide +kernel
theorem xj_R_isOutdone_36 : decode xb_R_isOutdone 36 = .ok (.invokestatic 21, 3) := by decide +kernel
theorem xj_R_isOutdone_39 : decode xb_R_isOutdone 39 = .ok (.ifCond .ne 5, 3) := by decide +kernel
theorem xj_R_isOutdone_42 : decode xb_R_isOutdone 42 = .ok (.iconst 1, 1) := by decide +kernel
theorem xj_R_isOutdone_43 : decode xb_R_isOutdone 43 = .ok (.ireturn, 1) := by decide +kernel
theorem xj_R_isOutdone_44 : decode xb_R_isOutdone 44 = .ok (.iinc 3 1, 3) := by decide +kernel
theorem xj_R_isOutdone_47 : decode xb_R_isOutdone 47 = .ok (.goto (-45), 3) := by decide +kernel
theorem xj_R_isOutdone_50 : decode xb_R_isOutdone 50 = .ok (.iconst 0, 1) := by decide +kernel
theorem xj_R_isOutdone_51 : decode xb_R_isOutdone 51 = .ok (.ireturn, 1) := by decide +kernel
theorem xj_M_init_0 : decode xb_M_init 0 = .ok (.aload_n 0, 1) := by decide +kernel
theorem xj_M_init_1 : decode xb_M_init 1 = .ok (.invokespecial 1, 3) := by decide +kernel
theorem xj_M_init_4 : decode xb_M_init 4 = .ok (.aload_n 0, 1) := by decide +kernel
theorem xj_M_init_5 : decode xb_M_init 5 = .ok (.iconst 1, 1) := by decide +kernel
theorem xj_M_init_6 : decode xb_M_init 6 = .ok (.putfield 7, 3) := by decide +kernel
theorem xj_M_init_9 : decode xb_M_init 9 = .ok (.aload_n 0, 1) := by decide +kernel
theorem xj_M_init_10 : decode xb_M_init 10 = .ok (.bipush 78, 2) := by decide +kernel
theorem xj_M_init_12 : decode xb_M_init 12 = .ok (.newarray .int, 2) := by decide +kernel
theorem xj_M_init_14 : decode xb_M_init 14 = .ok (.putfield 13, 3) := by decide +kernel
theorem xj_M_init_17 : decode xb_M_init 17 = .ok (.aload_n 0, 1) := by decide +kernel
theorem xj_M_init_18 : decode xb_M_init 18 = .ok (.bipush 78, 2) := by decide +kernel
theorem xj_M_init_20 : decode xb_M_init 20 = .ok (.newarray .int, 2) := by decide +kernel
theorem xj_M_init_22 : decode xb_M_init 22 = .ok (.putfield 17, 3) := by decide +kernel
theorem xj_M_init_25 : decode xb_M_init 25 = .ok (.aload_n 0, 1) := by decide +kernel
theorem xj_M_init_26 : decode xb_M_init 26 = .ok (.bipush 6, 2) := by decide +kernel
theorem xj_M_init_28 : decode xb_M_init 28 = .ok (.newarray .int, 2) := by decide +kernel
theorem xj_M_init_30 : decode xb_M_init 30 = .ok (.putfield 20, 3) := by decide +kernel
theorem xj_M_init_33 : decode xb_M_init 33 = .ok (.aload_n 0, 1) := by decide +kernel
theorem xj_M_init_34 : decode xb_M_init 34 = .ok (.bipush 6, 2) := by decide +kernel
theorem xj_M_init_36 : decode xb_M_init 36 = .ok (.newarray .int, 2) := by decide +kernel
theorem xj_M_init_38 : decode xb_M_init 38 = .ok (.putfield 23, 3) := by decide +kernel
theorem xj_M_init_41 : decode xb_M_init 41 = .ok (.aload_n 0, 1) := by decide +kernel
theorem xj_M_init_42 : decode xb_M_init 42 = .ok (.sipush 169, 3) := by decide +kernel
theorem xj_M_init_45 : decode xb_M_init 45 = .ok (.newarray .boolean, 2) := by decide +kernel
theorem xj_M_init_47 : decode xb_M_init 47 = .ok (.putfield 26, 3) := by decide +kernel
theorem xj_M_init_50 : decode xb_M_init 50 = .ok (.aload_n 0, 1) := by decide +kernel
theorem xj_M_init_51 : decode xb_M_init 51 = .ok (.sipush 169, 3) := by decide +kernel
theorem xj_M_init_54 : decode xb_M_init 54 = .ok (.newarray .boolean, 2) := by decide +kernel
theorem xj_M_init_56 : decode xb_M_init 56 = .ok (.putfield 30, 3) := by decide +kernel
theorem xj_M_init_59 : decode xb_M_init 59 = .ok (.aload_n 0, 1) := by decide +kernel
theorem xj_M_init_60 : decode xb_M_init 60 = .ok (.sipush 169, 3) := by decide +kernel
theorem xj_M_init_63 : decode xb_M_init 63 = .ok (.newarray .boolean, 2) := by decide +kernel
theorem xj_M_init_65 : decode xb_M_init 65 = .ok (.putfield 33, 3) := by decide +kernel
theorem xj_M_init_68 : decode xb_M_init 68 = .ok (.aload_n 0, 1) := by decide +kernel
theorem xj_M_init_69 : decode xb_M_init 69 = .ok (.sipush 169, 3) := by decide +kernel
theorem xj_M_init_72 : decode xb_M_init 72 = .ok (.newarray .int, 2) := by decide +kernel
theorem xj_M_init_74 : decode xb_M_init 74 = .ok (.putfield 36, 3) := by decide +kernel
theorem xj_M_init_77 : decode xb_M_init 77 = .ok (.aload_n 0, 1) := by decide +kernel
theorem xj_M_init_78 : decode xb_M_init 78 = .ok (.bipush 13, 2) := by decide +kernel
theorem xj_M_init_80 : decode xb_M_init 80 = .ok (.newarray .boolean, 2) := by decide +kernel
theorem xj_M_init_82 : decode xb_M_init 82 = .ok (.putfield 39, 3) := by decide +kernel
theorem xj_M_init_85 : decode xb_M_init 85 = .ok (.aload_n 0, 1) := by decide +kernel
theorem xj_M_init_86 : decode xb_M_init 86 = .ok (.bipush 13, 2) := by decide +kernel
theorem xj_M_init_88 : decode xb_M_init 88 = .ok (.newarray .int, 2) := by decide +kernel
theorem xj_M_init_90 : decode xb_M_init 90 = .ok (.putfield 42, 3) := by decide +kernel
theorem xj_M_init_93 : decode xb_M_init 93 = .ok (.aload_n 0, 1) := by decide +kernel
theorem xj_M_init_94 : decode xb_M_init 94 = .ok (.invokevirtual 45, 3) := by decide +kernel
theorem xj_M_init_97 : decode xb_M_init 97 = .ok (.return_, 1) := by decide +kernel
theorem xj_M_forget_0 : decode xb_M_forget 0 = .ok (.iconst 0, 1) := by decide +kernel
theorem xj_M_forget_1 : decode xb_M_forget 1 = .ok (.istore_n 1, 1) := by decide +kernel
theorem xj_M_forget_2 : decode xb_M_forget 2 = .ok (.iload_n 1, 1) := by decide +kernel
theorem xj_M_forget_3 : decode xb_M_forget 3 = .ok (.bipush 6, 2) := by decide +kernel
theorem xj_M_forget_5 : decode xb_M_forget 5 = .ok (.if_icmp .ge 23, 3) := by decide +kernel
theorem xj_M_forget_8 : decode xb_M_forget 8 = .ok (.aload_n 0, 1) := by decide +kernel
theorem xj_M_forget_9 : decode xb_M_forget 9 = .ok (.getfield 20, 3) := by decide +kernel
theorem xj_M_forget_12 : decode xb_M_forget 12 = .ok (.iload_n 1, 1) := by decide +kernel
theorem xj_M_forget_13 : decode xb_M_forget 13 = .ok (.iconst 1, 1) := by decide +kernel
theorem xj_M_forget_14 : decode xb_M_forget 14 = .ok (.iastore, 1) := by decide +kernel
theorem xj_M_forget_15 : decode xb_M_forget 15 = .ok (.aload_n 0, 1) := by decide +kernel
theorem xj_M_forget_16 : decode xb_M_forget 16 = .ok (.getfield 23, 3) := by decide +kernel
theorem xj_M_forget_19 : decode xb_M_forget 19 = .ok (.iload_n 1, 1) := by decide +kernel
theorem xj_M_forget_20 : decode xb_M_forget 20 = .ok (.iconst 0, 1) := by decide +kernel
theorem xj_M_forget_21 : decode xb_M_forget 21 = .ok (.iastore, 1) := by decide +kernel
theorem xj_M_forget_22 : decode xb_M_forget 22 = .ok (.iinc 1 1, 3) := by decide +kernel
theorem xj_M_forget_25 : decode xb_M_forget 25 = .ok (.goto (-23), 3) := by decide +kernel
theorem xj_M_forget_28 : decode xb_M_forget 28 = .ok (.return_, 1) := by decide +kernel
theorem xj_M_thrown_0 : decode xb_M_thrown 0 = .ok (.aload_n 0, 1) := by decide +kernel
theorem xj_M_thrown_1 : decode xb_M_thrown 1 = .ok (.getfield 48, 3) := by decide +kernel
theorem xj_M_thrown_4 : decode xb_M_thrown 4 = .ok (.ireturn, 1) := by decide +kernel
theorem xj_M_goods_0 : decode xb_M_goods 0 = .ok (.aload_n 0, 1) := by decide +kernel
theorem xj_M_goods_1 : decode xb_M_goods 1 = .ok (.iload_n 1, 1) := by decide +kernel
theorem xj_M_goods_2 : decode xb_M_goods 2 = .ok (.iconst 1, 1) := by decide +kernel
theorem xj_M_goods_3 : decode xb_M_goods 3 = .ok (.bipush 6, 2) := by decide +kernel
theorem xj_M_goods_5 : decode xb_M_goods 5 = .ok (.invokestatic 54, 3) := by decide +kernel
theorem xj_M_goods_8 : decode xb_M_goods 8 = .ok (.ifCond .eq 7, 3) := by decide +kernel
theorem xj_M_goods_11 : decode xb_M_goods 11 = .ok (.iconst 0, 1) := by decide +kernel
theorem xj_M_goods_12 : decode xb_M_goods 12 = .ok (.goto 4, 3) := by decide +kernel
theorem xj_M_goods_15 : decode xb_M_goods 15 = .ok (.iconst 1, 1) := by decide +kernel
theorem xj_M_goods_16 : decode xb_M_goods 16 = .ok (.putfield 48, 3) := by decide +kernel
theorem xj_M_goods_19 : decode xb_M_goods 19 = .ok (.aload_n 0, 1) := by decide +kernel
theorem xj_M_goods_20 : decode xb_M_goods 20 = .ok (.getfield 48, 3) := by decide +kernel
theorem xj_M_goods_23 : decode xb_M_goods 23 = .ok (.ifCond .le 4, 3) := by decide +kernel
theorem xj_M_goods_26 : decode xb_M_goods 26 = .ok (.return_, 1) := by decide +kernel
theorem xj_M_goods_27 : decode xb_M_goods 27 = .ok (.aload_n 0, 1) := by decide +kernel
theorem xj_M_goods_28 : decode xb_M_goods 28 = .ok (.iload_n 1, 1) := by decide +kernel
theorem xj_M_goods_29 : decode xb_M_goods 29 = .ok (.putfield 7, 3) := by decide +kernel
theorem xj_M_goods_32 : decode xb_M_goods 32 = .ok (.aload_n 0, 1) := by decide +kernel
theorem xj_M_goods_33 : decode xb_M_goods 33 = .ok (.iconst 0, 1) := by decide +kernel
theorem xj_M_goods_34 : decode xb_M_goods 34 = .ok (.putfield 51, 3) := by decide +kernel
theorem xj_M_goods_37 : decode xb_M_goods 37 = .ok (.aload_n 0, 1) := by decide +kernel
theorem xj_M_goods_38 : decode xb_M_goods 38 = .ok (.invokevirtual 45, 3) := by decide +kernel
theorem xj_M_goods_41 : decode xb_M_goods 41 = .ok (.return_, 1) := by decide +kernel
theorem xj_M_in_0 : decode xb_M_in 0 = .ok (.iload_n 0, 1) := by decide +kernel
theorem xj_M_in_1 : decode xb_M_in 1 = .ok (.iload_n 1, 1) := by decide +kernel
theorem xj_M_in_2 : decode xb_M_in 2 = .ok (.if_icmp .lt 12, 3) := by decide +kernel
theorem xj_M_in_5 : decode xb_M_in 5 = .ok (.iload_n 0, 1) := by decide +kernel
theorem xj_M_in_6 : decode xb_M_in 6 = .ok (.iload_n 2, 1) := by decide +kernel
theorem xj_M_in_7 : decode xb_M_in 7 = .ok (.if_icmp .gt 7, 3) := by decide +kernel
theorem xj_M_in_10 : decode xb_M_in 10 = .ok (.iconst 1, 1) := by decide +kernel
theorem xj_M_in_11 : decode xb_M_in 11 = .ok (.goto 4, 3) := by decide +kernel
theorem xj_M_in_14 : decode xb_M_in 14 = .ok (.iconst 0, 1) := by decide +kernel
theorem xj_M_in_15 : decode xb_M_in 15 = .ok (.ireturn, 1) := by decide +kernel
theorem xj_M_day_0 : decode xb_M_day 0 = .ok (.aload_n 0, 1) := by decide +kernel
theorem xj_M_day_1 : decode xb_M_day 1 = .ok (.aload_n 0, 1) := by decide +kernel
theorem xj_M_day_2 : decode xb_M_day 2 = .ok (.getfield 51, 3) := by decide +kernel
theorem xj_M_day_5 : decode xb_M_day 5 = .ok (.bipush 12, 2) := by decide +kernel
theorem xj_M_day_7 : decode xb_M_day 7 = .ok (.if_icmp .ne 7, 3) := by decide +kernel
theorem xj_M_day_10 : decode xb_M_day 10 = .ok (.iconst 1, 1) := by decide +kernel
theorem xj_M_day_11 : decode xb_M_day 11 = .ok (.goto 4, 3) := by decide +kernel
theorem xj_M_day_14 : decode xb_M_day 14 = .ok (.iconst 0, 1) := by decide +kernel
theorem xj_M_day_15 : decode xb_M_day 15 = .ok (.putfield 48, 3) := by decide +kernel
theorem xj_M_day_18 : decode xb_M_day 18 = .ok (.aload_n 0, 1) := by decide +kernel
theorem xj_M_day_19 : decode xb_M_day 19 = .ok (.getfield 48, 3) := by decide +kernel
theorem xj_M_day_22 : decode xb_M_day 22 = .ok (.ifCond .le 5, 3) := by decide +kernel
theorem xj_M_day_25 : decode xb_M_day 25 = .ok (.iconst 0, 1) := by decide +kernel
theorem xj_M_day_26 : decode xb_M_day 26 = .ok (.ireturn, 1) := by decide +kernel
theorem xj_M_day_27 : decode xb_M_day 27 = .ok (.iconst 0, 1) := by decide +kernel
theorem xj_M_day_28 : decode xb_M_day 28 = .ok (.istore_n 1, 1) := by decide +kernel
theorem xj_M_day_29 : decode xb_M_day 29 = .ok (.iload_n 1, 1) := by decide +kernel
theorem xj_M_day_30 : decode xb_M_day 30 = .ok (.bipush 6, 2) := by decide +kernel
theorem xj_M_day_32 : decode xb_M_day 32 = .ok (.if_icmp .ge 39, 3) := by decide +kernel
theorem xj_M_day_35 : decode xb_M_day 35 = .ok (.aload_n 0, 1) := by decide +kernel
theorem xj_M_day_36 : decode xb_M_day 36 = .ok (.getfield 13, 3) := by decide +kernel
theorem xj_M_day_39 : decode xb_M_day 39 = .ok (.bipush 6, 2) := by decide +kernel
theorem xj_M_day_41 : decode xb_M_day 41 = .ok (.aload_n 0, 1) := by decide +kernel
theorem xj_M_day_42 : decode xb_M_day 42 = .ok (.getfield 51, 3) := by decide +kernel
theorem xj_M_day_45 : decode xb_M_day 45 = .ok (.imul, 1) := by decide +kernel
theorem xj_M_day_46 : decode xb_M_day 46 = .ok (.iload_n 1, 1) := by decide +kernel
theorem xj_M_day_47 : decode xb_M_day 47 = .ok (.iadd, 1) := by decide +kernel
theorem xj_M_day_48 : decode xb_M_day 48 = .ok (.iconst 1, 1) := by decide +kernel
theorem xj_M_day_49 : decode xb_M_day 49 = .ok (.iastore, 1) := by decide +kernel
theorem xj_M_day_50 : decode xb_M_day 50 = .ok (.aload_n 0, 1) := by decide +kernel
theorem xj_M_day_51 : decode xb_M_day 51 = .ok (.getfield 17, 3) := by decide +kernel
theorem xj_M_day_54 : decode xb_M_day 54 = .ok (.bipush 6, 2) := by decide +kernel
theorem xj_M_day_56 : decode xb_M_day 56 = .ok (.aload_n 0, 1) := by decide +kernel
theorem xj_M_day_57 : decode xb_M_day 57 = .ok (.getfield 51, 3) := by decide +kernel
theorem xj_M_day_60 : decode xb_M_day 60 = .ok (.imul, 1) := by decide +kernel
theorem xj_M_day_61 : decode xb_M_day 61 = .ok (.iload_n 1, 1) := by decide +kernel
theorem xj_M_day_62 : decode xb_M_day 62 = .ok (.iadd, 1) := by decide +kernel
theorem xj_M_day_63 : decode xb_M_day 63 = .ok (.iconst 0, 1) := by decide +kernel
theorem xj_M_day_64 : decode xb_M_day 64 = .ok (.iastore, 1) := by decide +kernel
theorem xj_M_day_65 : decode xb_M_day 65 = .ok (.iinc 1 1, 3) := by decide +kernel
theorem xj_M_day_68 : decode xb_M_day 68 = .ok (.goto (-39), 3) := by decide +kernel
theorem xj_M_day_71 : decode xb_M_day 71 = .ok (.aload_n 0, 1) := by decide +kernel
theorem xj_M_day_72 : decode xb_M_day 72 = .ok (.dup, 1) := by decide +kernel
theorem xj_M_day_73 : decode xb_M_day 73 = .ok (.getfield 51, 3) := by decide +kernel
theorem xj_M_day_76 : decode xb_M_day 76 = .ok (.iconst 1, 1) := by decide +kernel
theorem xj_M_day_77 : decode xb_M_day 77 = .ok (.iadd, 1) := by decide +kernel
theorem xj_M_day_78 : decode xb_M_day 78 = .ok (.putfield 51, 3) := by decide +kernel
theorem xj_M_day_81 : decode xb_M_day 81 = .ok (.aload_n 0, 1) := by decide +kernel
theorem xj_M_day_82 : decode xb_M_day 82 = .ok (.getfield 51, 3) := by decide +kernel
theorem xj_M_day_85 : decode xb_M_day 85 = .ok (.iconst 1, 1) := by decide +kernel
theorem xj_M_day_86 : decode xb_M_day 86 = .ok (.isub, 1) := by decide +kernel
theorem xj_M_day_87 : decode xb_M_day 87 = .ok (.ireturn, 1) := by decide +kernel
theorem xj_M_price_0 : decode xb_M_price 0 = .ok (.aload_n 0, 1) := by decide +kernel
theorem xj_M_price_1 : decode xb_M_price 1 = .ok (.aload_n 0, 1) := by decide +kernel
theorem xj_M_price_2 : decode xb_M_price 2 = .ok (.iload_n 1, 1) := by decide +kernel
theorem xj_M_price_3 : decode xb_M_price 3 = .ok (.invokevirtual 58, 3) := by decide +kernel
theorem xj_M_price_6 : decode xb_M_price 6 = .ok (.ifCond .eq 17, 3) := by decide +kernel
theorem xj_M_price_9 : decode xb_M_price 9 = .ok (.iload_n 2, 1) := by decide +kernel
theorem xj_M_price_10 : decode xb_M_price 10 = .ok (.iconst 0, 1) := by decide +kernel
theorem xj_M_price_11 : decode xb_M_price 11 = .ok (.aload_n 0, 1) := by decide +kernel
theorem xj_M_price_12 : decode xb_M_price 12 = .ok (.getfield 7, 3) := by decide +kernel
theorem xj_M_price_15 : decode xb_M_price 15 = .ok (.iconst 1, 1) := by decide +kernel
theorem xj_M_price_16 : decode xb_M_price 16 = .ok (.isub, 1) := by decide +kernel
theorem xj_M_price_17 : decode xb_M_price 17 = .ok (.invokestatic 54, 3) := by decide +kernel
theorem xj_M_price_20 : decode xb_M_price 20 = .ok (.ifCond .ne 7, 3) := by decide +kernel
theorem xj_M_price_23 : decode xb_M_price 23 = .ok (.iconst 1, 1) := by decide +kernel
theorem xj_M_price_24 : decode xb_M_price 24 = .ok (.goto 18, 3) := by decide +kernel
theorem xj_M_price_27 : decode xb_M_price 27 = .ok (.iload_n 3, 1) := by decide +kernel
theorem xj_M_price_28 : decode xb_M_price 28 = .ok (.iconst 1, 1) := by decide +kernel
theorem xj_M_price_29 : decode xb_M_price 29 = .ok (.bipush 99, 2) := by decide +kernel
theorem xj_M_price_31 : decode xb_M_price 31 = .ok (.invokestatic 54, 3) := by decide +kernel
theorem xj_M_price_34 : decode xb_M_price 34 = .ok (.ifCond .ne 7, 3) := by decide +kernel
theorem xj_M_price_37 : decode xb_M_price 37 = .ok (.iconst 2, 1) := by decide +kernel
theorem xj_M_price_38 : decode xb_M_price 38 = .ok (.goto 4, 3) := by decide +kernel
theorem xj_M_price_41 : decode xb_M_price 41 = .ok (.iconst 0, 1) := by decide +kernel
theorem xj_M_price_42 : decode xb_M_price 42 = .ok (.putfield 48, 3) := by decide +kernel
theorem xj_M_price_45 : decode xb_M_price 45 = .ok (.aload_n 0, 1) := by decide +kernel
theorem xj_M_price_46 : decode xb_M_price 46 = .ok (.getfield 48, 3) := by decide +kernel
theorem xj_M_price_49 : decode xb_M_price 49 = .ok (.ifCond .le 5, 3) := by decide +kernel
theorem xj_M_price_52 : decode xb_M_price 52 = .ok (.iconst 0, 1) := by decide +kernel
theorem xj_M_price_53 : decode xb_M_price 53 = .ok (.ireturn, 1) := by decide +kernel
theorem xj_M_price_54 : decode xb_M_price 54 = .ok (.aload_n 0, 1) := by decide +kernel
theorem xj_M_price_55 : decode xb_M_price 55 = .ok (.getfield 13, 3) := by decide +kernel
theorem xj_M_price_58 : decode xb_M_price 58 = .ok (.bipush 6, 2) := by decide +kernel
theorem xj_M_price_60 : decode xb_M_price 60 = .ok (.iload_n 1, 1) := by decide +kernel
theorem xj_M_price_61 : decode xb_M_price 61 = .ok (.imul, 1) := by decide +kernel
theorem xj_M_price_62 : decode xb_M_price 62 = .ok (.iload_n 2, 1) := by decide +kernel
theorem xj_M_price_63 : decode xb_M_price 63 = .ok (.iadd, 1) := by decide +kernel
theorem xj_M_price_64 : decode xb_M_price 64 = .ok (.iaload, 1) := by decide +kernel
theorem xj_M_price_65 : decode xb_M_price 65 = .ok (.istore 4, 2) := by decide +kernel
theorem xj_M_price_67 : decode xb_M_price 67 = .ok (.aload_n 0, 1) := by decide +kernel
theorem xj_M_price_68 : decode xb_M_price 68 = .ok (.getfield 13, 3) := by decide +kernel
theorem xj_M_price_71 : decode xb_M_price 71 = .ok (.bipush 6, 2) := by decide +kernel
theorem xj_M_price_73 : decode xb_M_price 73 = .ok (.iload_n 1, 1) := by decide +kernel
theorem xj_M_price_74 : decode xb_M_price 74 = .ok (.imul, 1) := by decide +kernel
theorem xj_M_price_75 : decode xb_M_price 75 = .ok (.iload_n 2, 1) := by decide +kernel
theorem xj_M_price_76 : decode xb_M_price 76 = .ok (.iadd, 1) := by decide +kernel
theorem xj_M_price_77 : decode xb_M_price 77 = .ok (.iload_n 3, 1) := by decide +kernel
theorem xj_M_price_78 : decode xb_M_price 78 = .ok (.iastore, 1) := by decide +kernel
theorem xj_M_price_79 : decode xb_M_price 79 = .ok (.iload 4, 2) := by decide +kernel
theorem xj_M_price_81 : decode xb_M_price 81 = .ok (.ireturn, 1) := by decide +kernel
theorem xj_M_isDay_0 : decode xb_M_isDay 0 = .ok (.iload_n 1, 1) := by decide +kernel
theorem xj_M_isDay_1 : decode xb_M_isDay 1 = .ok (.iconst 0, 1) := by decide +kernel
theorem xj_M_isDay_2 : decode xb_M_isDay 2 = .ok (.aload_n 0, 1) := by decide +kernel
theorem xj_M_isDay_3 : decode xb_M_isDay 3 = .ok (.getfield 51, 3) := by decide +kernel
theorem xj_M_isDay_6 : decode xb_M_isDay 6 = .ok (.iconst 1, 1) := by decide +kernel
theorem xj_M_isDay_7 : decode xb_M_isDay 7 = .ok (.isub, 1) := by decide +kernel
theorem xj_M_isDay_8 : decode xb_M_isDay 8 = .ok (.invokestatic 54, 3) := by decide +kernel
theorem xj_M_isDay_11 : decode xb_M_isDay 11 = .ok (.ireturn, 1) := by decide +kernel
theorem xj_M_amount_0 : decode xb_M_amount 0 = .ok (.aload_n 0, 1) := by decide +kernel
theorem xj_M_amount_1 : decode xb_M_amount 1 = .ok (.aload_n 0, 1) := by decide +kernel
theorem xj_M_amount_2 : decode xb_M_amount 2 = .ok (.iload_n 1, 1) := by decide +kernel
theorem xj_M_amount_3 : decode xb_M_amount 3 = .ok (.invokevirtual 58, 3) := by decide +kernel
theorem xj_M_amount_6 : decode xb_M_amount 6 = .ok (.ifCond .eq 17, 3) := by decide +kernel
theorem xj_M_amount_9 : decode xb_M_amount 9 = .ok (.iload_n 2, 1) := by decide +kernel
theorem xj_M_amount_10 : decode xb_M_amount 10 = .ok (.iconst 0, 1) := by decide +kernel
theorem xj_M_amount_11 : decode xb_M_amount 11 = .ok (.aload_n 0, 1) := by decide +kernel
theorem xj_M_amount_12 : decode xb_M_amount 12 = .ok (.getfield 7, 3) := by decide +kernel
theorem xj_M_amount_15 : decode xb_M_amount 15 = .ok (.iconst 1, 1) := by decide +kernel
theorem xj_M_amount_16 : decode xb_M_amount 16 = .ok (.isub, 1) := by decide +kernel
theorem xj_M_amount_17 : decode xb_M_amount 17 = .ok (.invokestatic 54, 3) := by decide +kernel
theorem xj_M_amount_20 : decode xb_M_amount 20 = .ok (.ifCond .ne 7, 3) := by decide +kernel
theorem xj_M_amount_23 : decode xb_M_amount 23 = .ok (.iconst 1, 1) := by decide +kernel
theorem xj_M_amount_24 : decode xb_M_amount 24 = .ok (.goto 18, 3) := by decide +kernel
theorem xj_M_amount_27 : decode xb_M_amount 27 = .ok (.iload_n 3, 1) := by decide +kernel
theorem xj_M_amount_28 : decode xb_M_amount 28 = .ok (.iconst 0, 1) := by decide +kernel
theorem xj_M_amount_29 : decode xb_M_amount 29 = .ok (.bipush 99, 2) := by decide +kernel
theorem xj_M_amount_31 : decode xb_M_amount 31 = .ok (.invokestatic 54, 3) := by decide +kernel
theorem xj_M_amount_34 : decode xb_M_amount 34 = .ok (.ifCond .ne 7, 3) := by decide +kernel
theorem xj_M_amount_37 : decode xb_M_amount 37 = .ok (.iconst 2, 1) := by decide +kernel
theorem xj_M_amount_38 : decode xb_M_amount 38 = .ok (.goto 4, 3) := by decide +kernel
theorem xj_M_amount_41 : decode xb_M_amount 41 = .ok (.iconst 0, 1) := by decide +kernel
theorem xj_M_amount_42 : decode xb_M_amount 42 = .ok (.putfield 48, 3) := by decide +kernel
theorem xj_M_amount_45 : decode xb_M_amount 45 = .ok (.aload_n 0, 1) := by decide +kernel
theorem xj_M_amount_46 : decode xb_M_amount 46 = .ok (.getfield 48, 3) := by decide +kernel
theorem xj_M_amount_49 : decode xb_M_amount 49 = .ok (.ifCond .le 5, 3) := by decide +kernel
theorem xj_M_amount_52 : decode xb_M_amount 52 = .ok (.iconst 0, 1) := by decide +kernel
theorem xj_M_amount_53 : decode xb_M_amount 53 = .ok (.ireturn, 1) := by decide +kernel
theorem xj_M_amount_54 : decode xb_M_amount 54 = .ok (.aload_n 0, 1) := by decide +kernel
theorem xj_M_amount_55 : decode xb_M_amount 55 = .ok (.getfield 17, 3) := by decide +kernel
theorem xj_M_amount_58 : decode xb_M_amount 58 = .ok (.bipush 6, 2) := by decide +kernel
theorem xj_M_amount_60 : decode xb_M_amount 60 = .ok (.iload_n 1, 1) := by decide +kernel
theorem xj_M_amount_61 : decode xb_M_amount 61 = .ok (.imul, 1) := by decide +kernel
theorem xj_M_amount_62 : decode xb_M_amount 62 = .ok (.iload_n 2, 1) := by decide +kernel
theorem xj_M_amount_63 : decode xb_M_amount 63 = .ok (.iadd, 1) := by decide +kernel
theorem xj_M_amount_64 : decode xb_M_amount 64 = .ok (.iaload, 1) := by decide +kernel
theorem xj_M_amount_65 : decode xb_M_amount 65 = .ok (.istore 4, 2) := by decide +kernel
theorem xj_M_amount_67 : decode xb_M_amount 67 = .ok (.aload_n 0, 1) := by decide +kernel
theorem xj_M_amount_68 : decode xb_M_amount 68 = .ok (.getfield 17, 3) := by decide +kernel
theorem xj_M_amount_71 : decode xb_M_amount 71 = .ok (.bipush 6, 2) := by decide +kernel
theorem xj_M_amount_73 : decode xb_M_amount 73 = .ok (.iload_n 1, 1) := by decide +kernel
theorem xj_M_amount_74 : decode xb_M_amount 74 = .ok (.imul, 1) := by decide +kernel
theorem xj_M_amount_75 : decode xb_M_amount 75 = .ok (.iload_n 2, 1) := by decide +kernel
theorem xj_M_amount_76 : decode xb_M_amount 76 = .ok (.iadd, 1) := by decide +kernel
theorem xj_M_amount_77 : decode xb_M_amount 77 = .ok (.iload_n 3, 1) := by decide +kernel
theorem xj_M_amount_78 : decode xb_M_amount 78 = .ok (.iastore, 1) := by decide +kernel
theorem xj_M_amount_79 : decode xb_M_amount 79 = .ok (.iload 4, 2) := by decide +kernel
theorem xj_M_amount_81 : decode xb_M_amount 81 = .ok (.ireturn, 1) := by decide +kernel
theorem xj_M_remove_0 : decode xb_M_remove 0 = .ok (.aload_n 0, 1) := by decide +kernel
theorem xj_M_remove_1 : decode xb_M_remove 1 = .ok (.aload_n 0, 1) := by decide +kernel
theorem xj_M_remove_2 : decode xb_M_remove 2 = .ok (.iload_n 1, 1) := by decide +kernel
theorem xj_M_remove_3 : decode xb_M_remove 3 = .ok (.invokevirtual 58, 3) := by decide +kernel
theorem xj_M_remove_6 : decode xb_M_remove 6 = .ok (.ifCond .eq 7, 3) := by decide +kernel
theorem xj_M_remove_9 : decode xb_M_remove 9 = .ok (.iconst 0, 1) := by decide +kernel
theorem xj_M_remove_10 : decode xb_M_remove 10 = .ok (.goto 4, 3) := by decide +kernel
theorem xj_M_remove_13 : decode xb_M_remove 13 = .ok (.iconst 1, 1) := by decide +kernel
theorem xj_M_remove_14 : decode xb_M_remove 14 = .ok (.putfield 48, 3) := by decide +kernel
theorem xj_M_remove_17 : decode xb_M_remove 17 = .ok (.aload_n 0, 1) := by decide +kernel
theorem xj_M_remove_18 : decode xb_M_remove 18 = .ok (.getfield 48, 3) := by decide +kernel
theorem xj_M_remove_21 : decode xb_M_remove 21 = .ok (.ifCond .le 4, 3) := by decide +kernel
theorem xj_M_remove_24 : decode xb_M_remove 24 = .ok (.return_, 1) := by decide +kernel
theorem xj_M_remove_25 : decode xb_M_remove 25 = .ok (.aload_n 0, 1) := by decide +kernel
theorem xj_M_remove_26 : decode xb_M_remove 26 = .ok (.dup, 1) := by decide +kernel
theorem xj_M_remove_27 : decode xb_M_remove 27 = .ok (.getfield 51, 3) := by decide +kernel
theorem xj_M_remove_30 : decode xb_M_remove 30 = .ok (.iconst 1, 1) := by decide +kernel
theorem xj_M_remove_31 : decode xb_M_remove 31 = .ok (.isub, 1) := by decide +kernel
theorem xj_M_remove_32 : decode xb_M_remove 32 = .ok (.putfield 51, 3) := by decide +kernel
theorem xj_M_remove_35 : decode xb_M_remove 35 = .ok (.bipush 6, 2) := by decide +kernel
theorem xj_M_remove_37 : decode xb_M_remove 37 = .ok (.iload_n 1, 1) := by decide +kernel
theorem xj_M_remove_38 : decode xb_M_remove 38 = .ok (.imul, 1) := by decide +kernel
theorem xj_M_remove_39 : decode xb_M_remove 39 = .ok (.istore_n 2, 1) := by decide +kernel
theorem xj_M_remove_40 : decode xb_M_remove 40 = .ok (.iload_n 2, 1) := by decide +kernel
theorem xj_M_remove_41 : decode xb_M_remove 41 = .ok (.bipush 6, 2) := by decide +kernel
theorem xj_M_remove_43 : decode xb_M_remove 43 = .ok (.aload_n 0, 1) := by decide +kernel
theorem xj_M_remove_44 : decode xb_M_remove 44 = .ok (.getfield 51, 3) := by decide +kernel
theorem xj_M_remove_47 : decode xb_M_remove 47 = .ok (.imul, 1) := by decide +kernel
theorem xj_M_remove_48 : decode xb_M_remove 48 = .ok (.if_icmp .ge 39, 3) := by decide +kernel
theorem xj_M_remove_51 : decode xb_M_remove 51 = .ok (.aload_n 0, 1) := by decide +kernel
theorem xj_M_remove_52 : decode xb_M_remove 52 = .ok (.getfield 13, 3) := by decide +kernel
theorem xj_M_remove_55 : decode xb_M_remove 55 = .ok (.iload_n 2, 1) := by decide +kernel
theorem xj_M_remove_56 : decode xb_M_remove 56 = .ok (.aload_n 0, 1) := by decide +kernel
theorem xj_M_remove_57 : decode xb_M_remove 57 = .ok (.getfield 13, 3) := by decide +kernel
theorem xj_M_remove_60 : decode xb_M_remove 60 = .ok (.iload_n 2, 1) := by decide +kernel
theorem xj_M_remove_61 : decode xb_M_remove 61 = .ok (.bipush 6, 2) := by decide +kernel
theorem xj_M_remove_63 : decode xb_M_remove 63 = .ok (.iadd, 1) := by decide +kernel
theorem xj_M_remove_64 : decode xb_M_remove 64 = .ok (.iaload, 1) := by decide +kernel
theorem xj_M_remove_65 : decode xb_M_remove 65 = .ok (.iastore, 1) := by decide +kernel
theorem xj_M_remove_66 : decode xb_M_remove 66 = .ok (.aload_n 0, 1) := by decide +kernel
theorem xj_M_remove_67 : decode xb_M_remove 67 = .ok (.getfield 17, 3) := by decide +kernel
theorem xj_M_remove_70 : decode xb_M_remove 70 = .ok (.iload_n 2, 1) := by decide +kernel
theorem xj_M_remove_71 : decode xb_M_remove 71 = .ok (.aload_n 0, 1) := by decide +kernel
theorem xj_M_remove_72 : decode xb_M_remove 72 = .ok (.getfield 17, 3) := by decide +kernel
theorem xj_M_remove_75 : decode xb_M_remove 75 = .ok (.iload_n 2, 1) := by decide +kernel
theorem xj_M_remove_76 : decode xb_M_remove 76 = .ok (.bipush 6, 2) := by decide +kernel
theorem xj_M_remove_78 : decode xb_M_remove 78 = .ok (.iadd, 1) := by decide +kernel
theorem xj_M_remove_79 : decode xb_M_remove 79 = .ok (.iaload, 1) := by decide +kernel
theorem xj_M_remove_80 : decode xb_M_remove 80 = .ok (.iastore, 1) := by decide +kernel
theorem xj_M_remove_81 : decode xb_M_remove 81 = .ok (.iinc 2 1, 3) := by decide +kernel
theorem xj_M_remove_84 : decode xb_M_remove 84 = .ok (.goto (-44), 3) := by decide +kernel
theorem xj_M_remove_87 : decode xb_M_remove 87 = .ok (.return_, 1) := by decide +kernel

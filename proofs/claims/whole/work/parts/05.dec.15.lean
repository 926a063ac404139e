/-! decode rows -/
theorem xj_M_isCircle_0 : decode xb_M_isCircle 0 = .ok (.iconst 0, 1) := by decide +kernel
theorem xj_M_isCircle_1 : decode xb_M_isCircle 1 = .ok (.istore_n 2, 1) := by decide +kernel
theorem xj_M_isCircle_2 : decode xb_M_isCircle 2 = .ok (.iconst 0, 1) := by decide +kernel
theorem xj_M_isCircle_3 : decode xb_M_isCircle 3 = .ok (.istore_n 3, 1) := by decide +kernel
theorem xj_M_isCircle_4 : decode xb_M_isCircle 4 = .ok (.iload_n 3, 1) := by decide +kernel
theorem xj_M_isCircle_5 : decode xb_M_isCircle 5 = .ok (.iload_n 1, 1) := by decide +kernel
theorem xj_M_isCircle_6 : decode xb_M_isCircle 6 = .ok (.if_icmp .ge 56, 3) := by decide +kernel
theorem xj_M_isCircle_9 : decode xb_M_isCircle 9 = .ok (.iload_n 2, 1) := by decide +kernel
theorem xj_M_isCircle_10 : decode xb_M_isCircle 10 = .ok (.ifCond .ne 40, 3) := by decide +kernel
theorem xj_M_isCircle_13 : decode xb_M_isCircle 13 = .ok (.aload_n 0, 1) := by decide +kernel
theorem xj_M_isCircle_14 : decode xb_M_isCircle 14 = .ok (.getfield 30, 3) := by decide +kernel
theorem xj_M_isCircle_17 : decode xb_M_isCircle 17 = .ok (.bipush 13, 2) := by decide +kernel
theorem xj_M_isCircle_19 : decode xb_M_isCircle 19 = .ok (.aload_n 0, 1) := by decide +kernel
theorem xj_M_isCircle_20 : decode xb_M_isCircle 20 = .ok (.getfield 42, 3) := by decide +kernel
theorem xj_M_isCircle_23 : decode xb_M_isCircle 23 = .ok (.iload_n 3, 1) := by decide +kernel
theorem xj_M_isCircle_24 : decode xb_M_isCircle 24 = .ok (.iaload, 1) := by decide +kernel
theorem xj_M_isCircle_25 : decode xb_M_isCircle 25 = .ok (.imul, 1) := by decide +kernel
theorem xj_M_isCircle_26 : decode xb_M_isCircle 26 = .ok (.aload_n 0, 1) := by decide +kernel
theorem xj_M_isCircle_27 : decode xb_M_isCircle 27 = .ok (.getfield 42, 3) := by decide +kernel
theorem xj_M_isCircle_30 : decode xb_M_isCircle 30 = .ok (.iload_n 3, 1) := by decide +kernel
theorem xj_M_isCircle_31 : decode xb_M_isCircle 31 = .ok (.iconst 1, 1) := by decide +kernel
theorem xj_M_isCircle_32 : decode xb_M_isCircle 32 = .ok (.iadd, 1) := by decide +kernel
theorem xj_M_isCircle_33 : decode xb_M_isCircle 33 = .ok (.iload_n 1, 1) := by decide +kernel
theorem xj_M_isCircle_34 : decode xb_M_isCircle 34 = .ok (.if_icmp .ge 9, 3) := by decide +kernel
theorem xj_M_isCircle_37 : decode xb_M_isCircle 37 = .ok (.iload_n 3, 1) := by decide +kernel
theorem xj_M_isCircle_38 : decode xb_M_isCircle 38 = .ok (.iconst 1, 1) := by decide +kernel
theorem xj_M_isCircle_39 : decode xb_M_isCircle 39 = .ok (.iadd, 1) := by decide +kernel
theorem xj_M_isCircle_40 : decode xb_M_isCircle 40 = .ok (.goto 4, 3) := by decide +kernel
theorem xj_M_isCircle_43 : decode xb_M_isCircle 43 = .ok (.iconst 0, 1) := by decide +kernel
theorem xj_M_isCircle_44 : decode xb_M_isCircle 44 = .ok (.iaload, 1) := by decide +kernel
theorem xj_M_isCircle_45 : decode xb_M_isCircle 45 = .ok (.iadd, 1) := by decide +kernel
theorem xj_M_isCircle_46 : decode xb_M_isCircle 46 = .ok (.baload, 1) := by decide +kernel
theorem xj_M_isCircle_47 : decode xb_M_isCircle 47 = .ok (.ifCond .eq 7, 3) := by decide +kernel
theorem xj_M_isCircle_50 : decode xb_M_isCircle 50 = .ok (.iconst 1, 1) := by decide +kernel
theorem xj_M_isCircle_51 : decode xb_M_isCircle 51 = .ok (.goto 4, 3) := by decide +kernel
theorem xj_M_isCircle_54 : decode xb_M_isCircle 54 = .ok (.iconst 0, 1) := by decide +kernel
theorem xj_M_isCircle_55 : decode xb_M_isCircle 55 = .ok (.istore_n 2, 1) := by decide +kernel
theorem xj_M_isCircle_56 : decode xb_M_isCircle 56 = .ok (.iinc 3 1, 3) := by decide +kernel
theorem xj_M_isCircle_59 : decode xb_M_isCircle 59 = .ok (.goto (-55), 3) := by decide +kernel
theorem xj_M_isCircle_62 : decode xb_M_isCircle 62 = .ok (.iload_n 2, 1) := by decide +kernel
theorem xj_M_isCircle_63 : decode xb_M_isCircle 63 = .ok (.ifCond .eq 33, 3) := by decide +kernel
theorem xj_M_isCircle_66 : decode xb_M_isCircle 66 = .ok (.aload_n 0, 1) := by decide +kernel
theorem xj_M_isCircle_67 : decode xb_M_isCircle 67 = .ok (.getfield 26, 3) := by decide +kernel
theorem xj_M_isCircle_70 : decode xb_M_isCircle 70 = .ok (.bipush 13, 2) := by decide +kernel
theorem xj_M_isCircle_72 : decode xb_M_isCircle 72 = .ok (.aload_n 0, 1) := by decide +kernel
theorem xj_M_isCircle_73 : decode xb_M_isCircle 73 = .ok (.getfield 42, 3) := by decide +kernel
theorem xj_M_isCircle_76 : decode xb_M_isCircle 76 = .ok (.iload_n 1, 1) := by decide +kernel
theorem xj_M_isCircle_77 : decode xb_M_isCircle 77 = .ok (.iconst 1, 1) := by decide +kernel
theorem xj_M_isCircle_78 : decode xb_M_isCircle 78 = .ok (.isub, 1) := by decide +kernel
theorem xj_M_isCircle_79 : decode xb_M_isCircle 79 = .ok (.iaload, 1) := by decide +kernel
theorem xj_M_isCircle_80 : decode xb_M_isCircle 80 = .ok (.imul, 1) := by decide +kernel
theorem xj_M_isCircle_81 : decode xb_M_isCircle 81 = .ok (.aload_n 0, 1) := by decide +kernel
theorem xj_M_isCircle_82 : decode xb_M_isCircle 82 = .ok (.getfield 42, 3) := by decide +kernel
theorem xj_M_isCircle_85 : decode xb_M_isCircle 85 = .ok (.iconst 0, 1) := by decide +kernel
theorem xj_M_isCircle_86 : decode xb_M_isCircle 86 = .ok (.iaload, 1) := by decide +kernel
theorem xj_M_isCircle_87 : decode xb_M_isCircle 87 = .ok (.iadd, 1) := by decide +kernel
theorem xj_M_isCircle_88 : decode xb_M_isCircle 88 = .ok (.baload, 1) := by decide +kernel
theorem xj_M_isCircle_89 : decode xb_M_isCircle 89 = .ok (.ifCond .eq 7, 3) := by decide +kernel
theorem xj_M_isCircle_92 : decode xb_M_isCircle 92 = .ok (.iconst 1, 1) := by decide +kernel
theorem xj_M_isCircle_93 : decode xb_M_isCircle 93 = .ok (.goto 4, 3) := by decide +kernel
theorem xj_M_isCircle_96 : decode xb_M_isCircle 96 = .ok (.iconst 0, 1) := by decide +kernel
theorem xj_M_isCircle_97 : decode xb_M_isCircle 97 = .ok (.ireturn, 1) := by decide +kernel
theorem xj_M_passes_0 : decode xb_M_passes 0 = .ok (.aload_n 0, 1) := by decide +kernel
theorem xj_M_passes_1 : decode xb_M_passes 1 = .ok (.iload_n 2, 1) := by decide +kernel
theorem xj_M_passes_2 : decode xb_M_passes 2 = .ok (.iconst 1, 1) := by decide +kernel
theorem xj_M_passes_3 : decode xb_M_passes 3 = .ok (.ldc 97, 2) := by decide +kernel
theorem xj_M_passes_5 : decode xb_M_passes 5 = .ok (.invokestatic 54, 3) := by decide +kernel
theorem xj_M_passes_8 : decode xb_M_passes 8 = .ok (.ifCond .eq 16, 3) := by decide +kernel
theorem xj_M_passes_11 : decode xb_M_passes 11 = .ok (.iload_n 1, 1) := by decide +kernel
theorem xj_M_passes_12 : decode xb_M_passes 12 = .ok (.iconst 1, 1) := by decide +kernel
theorem xj_M_passes_13 : decode xb_M_passes 13 = .ok (.iload_n 2, 1) := by decide +kernel
theorem xj_M_passes_14 : decode xb_M_passes 14 = .ok (.invokestatic 54, 3) := by decide +kernel
theorem xj_M_passes_17 : decode xb_M_passes 17 = .ok (.ifCond .eq 7, 3) := by decide +kernel
theorem xj_M_passes_20 : decode xb_M_passes 20 = .ok (.iconst 0, 1) := by decide +kernel
theorem xj_M_passes_21 : decode xb_M_passes 21 = .ok (.goto 4, 3) := by decide +kernel
theorem xj_M_passes_24 : decode xb_M_passes 24 = .ok (.iconst 1, 1) := by decide +kernel
theorem xj_M_passes_25 : decode xb_M_passes 25 = .ok (.putfield 48, 3) := by decide +kernel
theorem xj_M_passes_28 : decode xb_M_passes 28 = .ok (.aload_n 0, 1) := by decide +kernel
theorem xj_M_passes_29 : decode xb_M_passes 29 = .ok (.getfield 48, 3) := by decide +kernel
theorem xj_M_passes_32 : decode xb_M_passes 32 = .ok (.ifCond .le 5, 3) := by decide +kernel
theorem xj_M_passes_35 : decode xb_M_passes 35 = .ok (.iconst 0, 1) := by decide +kernel
theorem xj_M_passes_36 : decode xb_M_passes 36 = .ok (.ireturn, 1) := by decide +kernel
theorem xj_M_passes_37 : decode xb_M_passes 37 = .ok (.aload_n 0, 1) := by decide +kernel
theorem xj_M_passes_38 : decode xb_M_passes 38 = .ok (.aload_n 0, 1) := by decide +kernel
theorem xj_M_passes_39 : decode xb_M_passes 39 = .ok (.getfield 51, 3) := by decide +kernel
theorem xj_M_passes_42 : decode xb_M_passes 42 = .ok (.iload_n 1, 1) := by decide +kernel
theorem xj_M_passes_43 : decode xb_M_passes 43 = .ok (.i2l, 1) := by decide +kernel
theorem xj_M_passes_44 : decode xb_M_passes 44 = .ok (.iload_n 2, 1) := by decide +kernel
theorem xj_M_passes_45 : decode xb_M_passes 45 = .ok (.i2l, 1) := by decide +kernel
theorem xj_M_passes_46 : decode xb_M_passes 46 = .ok (.invokevirtual 74, 3) := by decide +kernel
theorem xj_M_passes_49 : decode xb_M_passes 49 = .ok (.aload_n 0, 1) := by decide +kernel
theorem xj_M_passes_50 : decode xb_M_passes 50 = .ok (.aload_n 0, 1) := by decide +kernel
theorem xj_M_passes_51 : decode xb_M_passes 51 = .ok (.getfield 51, 3) := by decide +kernel
theorem xj_M_passes_54 : decode xb_M_passes 54 = .ok (.invokevirtual 81, 3) := by decide +kernel
theorem xj_M_passes_57 : decode xb_M_passes 57 = .ok (.ireturn, 1) := by decide +kernel
theorem xj_M_shrinkage_0 : decode xb_M_shrinkage 0 = .ok (.aload_n 0, 1) := by decide +kernel
theorem xj_M_shrinkage_1 : decode xb_M_shrinkage 1 = .ok (.iload_n 1, 1) := by decide +kernel
theorem xj_M_shrinkage_2 : decode xb_M_shrinkage 2 = .ok (.iconst 0, 1) := by decide +kernel
theorem xj_M_shrinkage_3 : decode xb_M_shrinkage 3 = .ok (.iconst 1, 1) := by decide +kernel
theorem xj_M_shrinkage_4 : decode xb_M_shrinkage 4 = .ok (.invokestatic 54, 3) := by decide +kernel
theorem xj_M_shrinkage_7 : decode xb_M_shrinkage 7 = .ok (.ifCond .eq 7, 3) := by decide +kernel
theorem xj_M_shrinkage_10 : decode xb_M_shrinkage 10 = .ok (.iconst 0, 1) := by decide +kernel
theorem xj_M_shrinkage_11 : decode xb_M_shrinkage 11 = .ok (.goto 4, 3) := by decide +kernel
theorem xj_M_shrinkage_14 : decode xb_M_shrinkage 14 = .ok (.iconst 1, 1) := by decide +kernel
theorem xj_M_shrinkage_15 : decode xb_M_shrinkage 15 = .ok (.putfield 48, 3) := by decide +kernel
theorem xj_M_shrinkage_18 : decode xb_M_shrinkage 18 = .ok (.aload_n 0, 1) := by decide +kernel
theorem xj_M_shrinkage_19 : decode xb_M_shrinkage 19 = .ok (.getfield 48, 3) := by decide +kernel
theorem xj_M_shrinkage_22 : decode xb_M_shrinkage 22 = .ok (.ifCond .le 5, 3) := by decide +kernel
theorem xj_M_shrinkage_25 : decode xb_M_shrinkage 25 = .ok (.iconst 0, 1) := by decide +kernel
theorem xj_M_shrinkage_26 : decode xb_M_shrinkage 26 = .ok (.ireturn, 1) := by decide +kernel
theorem xj_M_shrinkage_27 : decode xb_M_shrinkage 27 = .ok (.iconst 1, 1) := by decide +kernel
theorem xj_M_shrinkage_28 : decode xb_M_shrinkage 28 = .ok (.istore_n 2, 1) := by decide +kernel
theorem xj_M_shrinkage_29 : decode xb_M_shrinkage 29 = .ok (.iconst 1, 1) := by decide +kernel
theorem xj_M_shrinkage_30 : decode xb_M_shrinkage 30 = .ok (.istore_n 3, 1) := by decide +kernel
theorem xj_M_shrinkage_31 : decode xb_M_shrinkage 31 = .ok (.iconst 0, 1) := by decide +kernel
theorem xj_M_shrinkage_32 : decode xb_M_shrinkage 32 = .ok (.istore 4, 2) := by decide +kernel
theorem xj_M_shrinkage_34 : decode xb_M_shrinkage 34 = .ok (.iload 4, 2) := by decide +kernel
theorem xj_M_shrinkage_36 : decode xb_M_shrinkage 36 = .ok (.aload_n 0, 1) := by decide +kernel
theorem xj_M_shrinkage_37 : decode xb_M_shrinkage 37 = .ok (.getfield 51, 3) := by decide +kernel
theorem xj_M_shrinkage_40 : decode xb_M_shrinkage 40 = .ok (.if_icmp .ge 95, 3) := by decide +kernel
theorem xj_M_shrinkage_43 : decode xb_M_shrinkage 43 = .ok (.iconst 0, 1) := by decide +kernel
theorem xj_M_shrinkage_44 : decode xb_M_shrinkage 44 = .ok (.istore 5, 2) := by decide +kernel
theorem xj_M_shrinkage_46 : decode xb_M_shrinkage 46 = .ok (.iload 5, 2) := by decide +kernel
theorem xj_M_shrinkage_48 : decode xb_M_shrinkage 48 = .ok (.aload_n 0, 1) := by decide +kernel
theorem xj_M_shrinkage_49 : decode xb_M_shrinkage 49 = .ok (.getfield 51, 3) := by decide +kernel
theorem xj_M_shrinkage_52 : decode xb_M_shrinkage 52 = .ok (.if_icmp .ge 77, 3) := by decide +kernel
theorem xj_M_shrinkage_55 : decode xb_M_shrinkage 55 = .ok (.aload_n 0, 1) := by decide +kernel
theorem xj_M_shrinkage_56 : decode xb_M_shrinkage 56 = .ok (.iload 4, 2) := by decide +kernel
theorem xj_M_shrinkage_58 : decode xb_M_shrinkage 58 = .ok (.iload 5, 2) := by decide +kernel
theorem xj_M_shrinkage_60 : decode xb_M_shrinkage 60 = .ok (.invokevirtual 62, 3) := by decide +kernel
theorem xj_M_shrinkage_63 : decode xb_M_shrinkage 63 = .ok (.istore 6, 2) := by decide +kernel
theorem xj_M_shrinkage_65 : decode xb_M_shrinkage 65 = .ok (.aload_n 0, 1) := by decide +kernel
theorem xj_M_shrinkage_66 : decode xb_M_shrinkage 66 = .ok (.iload 4, 2) := by decide +kernel
theorem xj_M_shrinkage_68 : decode xb_M_shrinkage 68 = .ok (.iload 4, 2) := by decide +kernel
theorem xj_M_shrinkage_70 : decode xb_M_shrinkage 70 = .ok (.invokevirtual 62, 3) := by decide +kernel
theorem xj_M_shrinkage_73 : decode xb_M_shrinkage 73 = .ok (.istore 7, 2) := by decide +kernel
theorem xj_M_shrinkage_75 : decode xb_M_shrinkage 75 = .ok (.iload 4, 2) := by decide +kernel
theorem xj_M_shrinkage_77 : decode xb_M_shrinkage 77 = .ok (.iload 5, 2) := by decide +kernel
theorem xj_M_shrinkage_79 : decode xb_M_shrinkage 79 = .ok (.if_icmp .eq 44, 3) := by decide +kernel
theorem xj_M_shrinkage_82 : decode xb_M_shrinkage 82 = .ok (.iload 7, 2) := by decide +kernel
theorem xj_M_shrinkage_84 : decode xb_M_shrinkage 84 = .ok (.ifCond .eq 39, 3) := by decide +kernel
theorem xj_M_shrinkage_87 : decode xb_M_shrinkage 87 = .ok (.iload 6, 2) := by decide +kernel
theorem xj_M_shrinkage_89 : decode xb_M_shrinkage 89 = .ok (.i2l, 1) := by decide +kernel
theorem xj_M_shrinkage_90 : decode xb_M_shrinkage 90 = .ok (.iload_n 3, 1) := by decide +kernel
theorem xj_M_shrinkage_91 : decode xb_M_shrinkage 91 = .ok (.i2l, 1) := by decide +kernel
theorem xj_M_shrinkage_92 : decode xb_M_shrinkage 92 = .ok (.lmul, 1) := by decide +kernel
theorem xj_M_shrinkage_93 : decode xb_M_shrinkage 93 = .ok (.iload_n 2, 1) := by decide +kernel
theorem xj_M_shrinkage_94 : decode xb_M_shrinkage 94 = .ok (.i2l, 1) := by decide +kernel
theorem xj_M_shrinkage_95 : decode xb_M_shrinkage 95 = .ok (.iload 7, 2) := by decide +kernel
theorem xj_M_shrinkage_97 : decode xb_M_shrinkage 97 = .ok (.i2l, 1) := by decide +kernel
theorem xj_M_shrinkage_98 : decode xb_M_shrinkage 98 = .ok (.lmul, 1) := by decide +kernel
theorem xj_M_shrinkage_99 : decode xb_M_shrinkage 99 = .ok (.lcmp, 1) := by decide +kernel
theorem xj_M_shrinkage_100 : decode xb_M_shrinkage 100 = .ok (.ifCond .ge 23, 3) := by decide +kernel
theorem xj_M_shrinkage_103 : decode xb_M_shrinkage 103 = .ok (.aload_n 0, 1) := by decide +kernel
theorem xj_M_shrinkage_104 : decode xb_M_shrinkage 104 = .ok (.iload 6, 2) := by decide +kernel
theorem xj_M_shrinkage_106 : decode xb_M_shrinkage 106 = .ok (.iload 7, 2) := by decide +kernel
theorem xj_M_shrinkage_108 : decode xb_M_shrinkage 108 = .ok (.invokevirtual 98, 3) := by decide +kernel
theorem xj_M_shrinkage_111 : decode xb_M_shrinkage 111 = .ok (.ifCond .ne 6, 3) := by decide +kernel
theorem xj_M_shrinkage_114 : decode xb_M_shrinkage 114 = .ok (.goto 9, 3) := by decide +kernel
theorem xj_M_shrinkage_117 : decode xb_M_shrinkage 117 = .ok (.iload 6, 2) := by decide +kernel
theorem xj_M_shrinkage_119 : decode xb_M_shrinkage 119 = .ok (.istore_n 2, 1) := by decide +kernel
theorem xj_M_shrinkage_120 : decode xb_M_shrinkage 120 = .ok (.iload 7, 2) := by decide +kernel
theorem xj_M_shrinkage_122 : decode xb_M_shrinkage 122 = .ok (.istore_n 3, 1) := by decide +kernel
theorem xj_M_shrinkage_123 : decode xb_M_shrinkage 123 = .ok (.iinc 5 1, 3) := by decide +kernel
theorem xj_M_shrinkage_126 : decode xb_M_shrinkage 126 = .ok (.goto (-80), 3) := by decide +kernel
theorem xj_M_shrinkage_129 : decode xb_M_shrinkage 129 = .ok (.iinc 4 1, 3) := by decide +kernel
theorem xj_M_shrinkage_132 : decode xb_M_shrinkage 132 = .ok (.goto (-98), 3) := by decide +kernel
theorem xj_M_shrinkage_135 : decode xb_M_shrinkage 135 = .ok (.iload_n 2, 1) := by decide +kernel
theorem xj_M_shrinkage_136 : decode xb_M_shrinkage 136 = .ok (.iload_n 3, 1) := by decide +kernel
theorem xj_M_shrinkage_137 : decode xb_M_shrinkage 137 = .ok (.invokestatic 102, 3) := by decide +kernel
theorem xj_M_shrinkage_140 : decode xb_M_shrinkage 140 = .ok (.istore 4, 2) := by decide +kernel
theorem xj_M_shrinkage_142 : decode xb_M_shrinkage 142 = .ok (.iload_n 1, 1) := by decide +kernel
theorem xj_M_shrinkage_143 : decode xb_M_shrinkage 143 = .ok (.ifCond .ne 10, 3) := by decide +kernel
theorem xj_M_shrinkage_146 : decode xb_M_shrinkage 146 = .ok (.iload_n 2, 1) := by decide +kernel
theorem xj_M_shrinkage_147 : decode xb_M_shrinkage 147 = .ok (.iload 4, 2) := by decide +kernel
theorem xj_M_shrinkage_149 : decode xb_M_shrinkage 149 = .ok (.idiv, 1) := by decide +kernel
theorem xj_M_shrinkage_150 : decode xb_M_shrinkage 150 = .ok (.goto 7, 3) := by decide +kernel
theorem xj_M_shrinkage_153 : decode xb_M_shrinkage 153 = .ok (.iload_n 3, 1) := by decide +kernel
theorem xj_M_shrinkage_154 : decode xb_M_shrinkage 154 = .ok (.iload 4, 2) := by decide +kernel
theorem xj_M_shrinkage_156 : decode xb_M_shrinkage 156 = .ok (.idiv, 1) := by decide +kernel
theorem xj_M_shrinkage_157 : decode xb_M_shrinkage 157 = .ok (.ireturn, 1) := by decide +kernel
theorem xj_M_failsAbove_0 : decode xb_M_failsAbove 0 = .ok (.iconst 0, 1) := by decide +kernel
theorem xj_M_failsAbove_1 : decode xb_M_failsAbove 1 = .ok (.istore_n 3, 1) := by decide +kernel
theorem xj_M_failsAbove_2 : decode xb_M_failsAbove 2 = .ok (.iload_n 3, 1) := by decide +kernel
theorem xj_M_failsAbove_3 : decode xb_M_failsAbove 3 = .ok (.aload_n 0, 1) := by decide +kernel
theorem xj_M_failsAbove_4 : decode xb_M_failsAbove 4 = .ok (.getfield 51, 3) := by decide +kernel
theorem xj_M_failsAbove_7 : decode xb_M_failsAbove 7 = .ok (.if_icmp .ge 109, 3) := by decide +kernel
theorem xj_M_failsAbove_10 : decode xb_M_failsAbove 10 = .ok (.aload_n 0, 1) := by decide +kernel
theorem xj_M_failsAbove_11 : decode xb_M_failsAbove 11 = .ok (.getfield 39, 3) := by decide +kernel
theorem xj_M_failsAbove_14 : decode xb_M_failsAbove 14 = .ok (.iload_n 3, 1) := by decide +kernel
theorem xj_M_failsAbove_15 : decode xb_M_failsAbove 15 = .ok (.iconst 1, 1) := by decide +kernel
theorem xj_M_failsAbove_16 : decode xb_M_failsAbove 16 = .ok (.bastore, 1) := by decide +kernel
theorem xj_M_failsAbove_17 : decode xb_M_failsAbove 17 = .ok (.iconst 0, 1) := by decide +kernel
theorem xj_M_failsAbove_18 : decode xb_M_failsAbove 18 = .ok (.istore 4, 2) := by decide +kernel
theorem xj_M_failsAbove_20 : decode xb_M_failsAbove 20 = .ok (.iload 4, 2) := by decide +kernel
theorem xj_M_failsAbove_22 : decode xb_M_failsAbove 22 = .ok (.aload_n 0, 1) := by decide +kernel
theorem xj_M_failsAbove_23 : decode xb_M_failsAbove 23 = .ok (.getfield 51, 3) := by decide +kernel
theorem xj_M_failsAbove_26 : decode xb_M_failsAbove 26 = .ok (.if_icmp .ge 84, 3) := by decide +kernel
theorem xj_M_failsAbove_29 : decode xb_M_failsAbove 29 = .ok (.iload_n 3, 1) := by decide +kernel
theorem xj_M_failsAbove_30 : decode xb_M_failsAbove 30 = .ok (.iload 4, 2) := by decide +kernel
theorem xj_M_failsAbove_32 : decode xb_M_failsAbove 32 = .ok (.if_icmp .eq 41, 3) := by decide +kernel
theorem xj_M_failsAbove_35 : decode xb_M_failsAbove 35 = .ok (.aload_n 0, 1) := by decide +kernel
theorem xj_M_failsAbove_36 : decode xb_M_failsAbove 36 = .ok (.iload_n 3, 1) := by decide +kernel
theorem xj_M_failsAbove_37 : decode xb_M_failsAbove 37 = .ok (.iload_n 3, 1) := by decide +kernel
theorem xj_M_failsAbove_38 : decode xb_M_failsAbove 38 = .ok (.invokevirtual 62, 3) := by decide +kernel
theorem xj_M_failsAbove_41 : decode xb_M_failsAbove 41 = .ok (.ifCond .le 32, 3) := by decide +kernel
theorem xj_M_failsAbove_44 : decode xb_M_failsAbove 44 = .ok (.aload_n 0, 1) := by decide +kernel
theorem xj_M_failsAbove_45 : decode xb_M_failsAbove 45 = .ok (.iload_n 3, 1) := by decide +kernel
theorem xj_M_failsAbove_46 : decode xb_M_failsAbove 46 = .ok (.iload 4, 2) := by decide +kernel
theorem xj_M_failsAbove_48 : decode xb_M_failsAbove 48 = .ok (.invokevirtual 62, 3) := by decide +kernel
theorem xj_M_failsAbove_51 : decode xb_M_failsAbove 51 = .ok (.i2l, 1) := by decide +kernel
theorem xj_M_failsAbove_52 : decode xb_M_failsAbove 52 = .ok (.iload_n 2, 1) := by decide +kernel
theorem xj_M_failsAbove_53 : decode xb_M_failsAbove 53 = .ok (.i2l, 1) := by decide +kernel
theorem xj_M_failsAbove_54 : decode xb_M_failsAbove 54 = .ok (.lmul, 1) := by decide +kernel
theorem xj_M_failsAbove_55 : decode xb_M_failsAbove 55 = .ok (.iload_n 1, 1) := by decide +kernel
theorem xj_M_failsAbove_56 : decode xb_M_failsAbove 56 = .ok (.i2l, 1) := by decide +kernel
theorem xj_M_failsAbove_57 : decode xb_M_failsAbove 57 = .ok (.aload_n 0, 1) := by decide +kernel
theorem xj_M_failsAbove_58 : decode xb_M_failsAbove 58 = .ok (.iload_n 3, 1) := by decide +kernel
theorem xj_M_failsAbove_59 : decode xb_M_failsAbove 59 = .ok (.iload_n 3, 1) := by decide +kernel
theorem xj_M_failsAbove_60 : decode xb_M_failsAbove 60 = .ok (.invokevirtual 62, 3) := by decide +kernel
theorem xj_M_failsAbove_63 : decode xb_M_failsAbove 63 = .ok (.i2l, 1) := by decide +kernel
theorem xj_M_failsAbove_64 : decode xb_M_failsAbove 64 = .ok (.lmul, 1) := by decide +kernel
theorem xj_M_failsAbove_65 : decode xb_M_failsAbove 65 = .ok (.lcmp, 1) := by decide +kernel
theorem xj_M_failsAbove_66 : decode xb_M_failsAbove 66 = .ok (.ifCond .gt 7, 3) := by decide +kernel
theorem xj_M_failsAbove_69 : decode xb_M_failsAbove 69 = .ok (.iconst 1, 1) := by decide +kernel
theorem xj_M_failsAbove_70 : decode xb_M_failsAbove 70 = .ok (.goto 4, 3) := by decide +kernel
theorem xj_M_failsAbove_73 : decode xb_M_failsAbove 73 = .ok (.iconst 0, 1) := by decide +kernel
theorem xj_M_failsAbove_74 : decode xb_M_failsAbove 74 = .ok (.istore 5, 2) := by decide +kernel
theorem xj_M_failsAbove_76 : decode xb_M_failsAbove 76 = .ok (.aload_n 0, 1) := by decide +kernel
theorem xj_M_failsAbove_77 : decode xb_M_failsAbove 77 = .ok (.getfield 26, 3) := by decide +kernel
theorem xj_M_failsAbove_80 : decode xb_M_failsAbove 80 = .ok (.bipush 13, 2) := by decide +kernel
theorem xj_M_failsAbove_82 : decode xb_M_failsAbove 82 = .ok (.iload_n 3, 1) := by decide +kernel
theorem xj_M_failsAbove_83 : decode xb_M_failsAbove 83 = .ok (.imul, 1) := by decide +kernel
theorem xj_M_failsAbove_84 : decode xb_M_failsAbove 84 = .ok (.iload 4, 2) := by decide +kernel
theorem xj_M_failsAbove_86 : decode xb_M_failsAbove 86 = .ok (.iadd, 1) := by decide +kernel
theorem xj_M_failsAbove_87 : decode xb_M_failsAbove 87 = .ok (.iload 5, 2) := by decide +kernel
theorem xj_M_failsAbove_89 : decode xb_M_failsAbove 89 = .ok (.bastore, 1) := by decide +kernel
theorem xj_M_failsAbove_90 : decode xb_M_failsAbove 90 = .ok (.aload_n 0, 1) := by decide +kernel
theorem xj_M_failsAbove_91 : decode xb_M_failsAbove 91 = .ok (.getfield 30, 3) := by decide +kernel
theorem xj_M_failsAbove_94 : decode xb_M_failsAbove 94 = .ok (.bipush 13, 2) := by decide +kernel
theorem xj_M_failsAbove_96 : decode xb_M_failsAbove 96 = .ok (.iload_n 3, 1) := by decide +kernel
theorem xj_M_failsAbove_97 : decode xb_M_failsAbove 97 = .ok (.imul, 1) := by decide +kernel
theorem xj_M_failsAbove_98 : decode xb_M_failsAbove 98 = .ok (.iload 4, 2) := by decide +kernel
theorem xj_M_failsAbove_100 : decode xb_M_failsAbove 100 = .ok (.iadd, 1) := by decide +kernel
theorem xj_M_failsAbove_101 : decode xb_M_failsAbove 101 = .ok (.iload 5, 2) := by decide +kernel
theorem xj_M_failsAbove_103 : decode xb_M_failsAbove 103 = .ok (.bastore, 1) := by decide +kernel
theorem xj_M_failsAbove_104 : decode xb_M_failsAbove 104 = .ok (.iinc 4 1, 3) := by decide +kernel
theorem xj_M_failsAbove_107 : decode xb_M_failsAbove 107 = .ok (.goto (-87), 3) := by decide +kernel
theorem xj_M_failsAbove_110 : decode xb_M_failsAbove 110 = .ok (.iinc 3 1, 3) := by decide +kernel
theorem xj_M_failsAbove_113 : decode xb_M_failsAbove 113 = .ok (.goto (-111), 3) := by decide +kernel
theorem xj_M_failsAbove_116 : decode xb_M_failsAbove 116 = .ok (.aload_n 0, 1) := by decide +kernel
theorem xj_M_failsAbove_117 : decode xb_M_failsAbove 117 = .ok (.aload_n 0, 1) := by decide +kernel
theorem xj_M_failsAbove_118 : decode xb_M_failsAbove 118 = .ok (.getfield 51, 3) := by decide +kernel
theorem xj_M_failsAbove_121 : decode xb_M_failsAbove 121 = .ok (.invokevirtual 81, 3) := by decide +kernel
theorem xj_M_failsAbove_124 : decode xb_M_failsAbove 124 = .ok (.ifCond .ne 7, 3) := by decide +kernel
theorem xj_M_failsAbove_127 : decode xb_M_failsAbove 127 = .ok (.iconst 1, 1) := by decide +kernel
theorem xj_M_failsAbove_128 : decode xb_M_failsAbove 128 = .ok (.goto 4, 3) := by decide +kernel
theorem xj_M_failsAbove_131 : decode xb_M_failsAbove 131 = .ok (.iconst 0, 1) := by decide +kernel
theorem xj_M_failsAbove_132 : decode xb_M_failsAbove 132 = .ok (.ireturn, 1) := by decide +kernel
theorem xj_M_common_0 : decode xb_M_common 0 = .ok (.iload_n 0, 1) := by decide +kernel
theorem xj_M_common_1 : decode xb_M_common 1 = .ok (.istore_n 2, 1) := by decide +kernel
theorem xj_M_common_2 : decode xb_M_common 2 = .ok (.iload_n 1, 1) := by decide +kernel
theorem xj_M_common_3 : decode xb_M_common 3 = .ok (.istore_n 3, 1) := by decide +kernel
theorem xj_M_common_4 : decode xb_M_common 4 = .ok (.iload_n 3, 1) := by decide +kernel
theorem xj_M_common_5 : decode xb_M_common 5 = .ok (.ifCond .le 16, 3) := by decide +kernel
theorem xj_M_common_8 : decode xb_M_common 8 = .ok (.iload_n 2, 1) := by decide +kernel
theorem xj_M_common_9 : decode xb_M_common 9 = .ok (.iload_n 3, 1) := by decide +kernel
theorem xj_M_common_10 : decode xb_M_common 10 = .ok (.irem, 1) := by decide +kernel
theorem xj_M_common_11 : decode xb_M_common 11 = .ok (.istore 4, 2) := by decide +kernel
theorem xj_M_common_13 : decode xb_M_common 13 = .ok (.iload_n 3, 1) := by decide +kernel
theorem xj_M_common_14 : decode xb_M_common 14 = .ok (.istore_n 2, 1) := by decide +kernel
theorem xj_M_common_15 : decode xb_M_common 15 = .ok (.iload 4, 2) := by decide +kernel
theorem xj_M_common_17 : decode xb_M_common 17 = .ok (.istore_n 3, 1) := by decide +kernel
theorem xj_M_common_18 : decode xb_M_common 18 = .ok (.goto (-14), 3) := by decide +kernel
theorem xj_M_common_21 : decode xb_M_common 21 = .ok (.iload_n 2, 1) := by decide +kernel
theorem xj_M_common_22 : decode xb_M_common 22 = .ok (.ireturn, 1) := by decide +kernel
theorem xj_M_drop_0 : decode xb_M_drop 0 = .ok (.aload_n 0, 1) := by decide +kernel
theorem xj_M_drop_1 : decode xb_M_drop 1 = .ok (.invokevirtual 108, 3) := by decide +kernel
theorem xj_M_drop_4 : decode xb_M_drop 4 = .ok (.istore_n 2, 1) := by decide +kernel
theorem xj_M_drop_5 : decode xb_M_drop 5 = .ok (.iconst 0, 1) := by decide +kernel
theorem xj_M_drop_6 : decode xb_M_drop 6 = .ok (.istore_n 3, 1) := by decide +kernel
theorem xj_M_drop_7 : decode xb_M_drop 7 = .ok (.iconst (-1), 1) := by decide +kernel
theorem xj_M_drop_8 : decode xb_M_drop 8 = .ok (.istore 4, 2) := by decide +kernel
theorem xj_M_drop_10 : decode xb_M_drop 10 = .ok (.iconst 0, 1) := by decide +kernel
theorem xj_M_drop_11 : decode xb_M_drop 11 = .ok (.istore 5, 2) := by decide +kernel
theorem xj_M_drop_13 : decode xb_M_drop 13 = .ok (.iload 5, 2) := by decide +kernel
theorem xj_M_drop_15 : decode xb_M_drop 15 = .ok (.aload_n 0, 1) := by decide +kernel
theorem xj_M_drop_16 : decode xb_M_drop 16 = .ok (.getfield 51, 3) := by decide +kernel
theorem xj_M_drop_19 : decode xb_M_drop 19 = .ok (.if_icmp .ge 33, 3) := by decide +kernel
theorem xj_M_drop_22 : decode xb_M_drop 22 = .ok (.iload_n 2, 1) := by decide +kernel
theorem xj_M_drop_23 : decode xb_M_drop 23 = .ok (.iload 5, 2) := by decide +kernel
theorem xj_M_drop_25 : decode xb_M_drop 25 = .ok (.ishr, 1) := by decide +kernel
theorem xj_M_drop_26 : decode xb_M_drop 26 = .ok (.iconst 1, 1) := by decide +kernel
theorem xj_M_drop_27 : decode xb_M_drop 27 = .ok (.iand, 1) := by decide +kernel
theorem xj_M_drop_28 : decode xb_M_drop 28 = .ok (.ifCond .ne 6, 3) := by decide +kernel
theorem xj_M_drop_31 : decode xb_M_drop 31 = .ok (.goto 15, 3) := by decide +kernel
theorem xj_M_drop_34 : decode xb_M_drop 34 = .ok (.iload_n 3, 1) := by decide +kernel
theorem xj_M_drop_35 : decode xb_M_drop 35 = .ok (.iload_n 1, 1) := by decide +kernel
theorem xj_M_drop_36 : decode xb_M_drop 36 = .ok (.if_icmp .ne 7, 3) := by decide +kernel
theorem xj_M_drop_39 : decode xb_M_drop 39 = .ok (.iload 5, 2) := by decide +kernel
theorem xj_M_drop_41 : decode xb_M_drop 41 = .ok (.istore 4, 2) := by decide +kernel
theorem xj_M_drop_43 : decode xb_M_drop 43 = .ok (.iinc 3 1, 3) := by decide +kernel
theorem xj_M_drop_46 : decode xb_M_drop 46 = .ok (.iinc 5 1, 3) := by decide +kernel
theorem xj_M_drop_49 : decode xb_M_drop 49 = .ok (.goto (-36), 3) := by decide +kernel
theorem xj_M_drop_52 : decode xb_M_drop 52 = .ok (.aload_n 0, 1) := by decide +kernel
theorem xj_M_drop_53 : decode xb_M_drop 53 = .ok (.iload_n 1, 1) := by decide +kernel
theorem xj_M_drop_54 : decode xb_M_drop 54 = .ok (.iconst (-1), 1) := by decide +kernel
theorem xj_M_drop_55 : decode xb_M_drop 55 = .ok (.iload_n 3, 1) := by decide +kernel
theorem xj_M_drop_56 : decode xb_M_drop 56 = .ok (.iconst 1, 1) := by decide +kernel
theorem xj_M_drop_57 : decode xb_M_drop 57 = .ok (.isub, 1) := by decide +kernel
theorem xj_M_drop_58 : decode xb_M_drop 58 = .ok (.invokestatic 54, 3) := by decide +kernel
theorem xj_M_drop_61 : decode xb_M_drop 61 = .ok (.ifCond .eq 7, 3) := by decide +kernel
theorem xj_M_drop_64 : decode xb_M_drop 64 = .ok (.iconst 0, 1) := by decide +kernel
theorem xj_M_drop_65 : decode xb_M_drop 65 = .ok (.goto 4, 3) := by decide +kernel
theorem xj_M_drop_68 : decode xb_M_drop 68 = .ok (.iconst 1, 1) := by decide +kernel
theorem xj_M_drop_69 : decode xb_M_drop 69 = .ok (.putfield 48, 3) := by decide +kernel
theorem xj_M_drop_72 : decode xb_M_drop 72 = .ok (.aload_n 0, 1) := by decide +kernel
theorem xj_M_drop_73 : decode xb_M_drop 73 = .ok (.getfield 48, 3) := by decide +kernel
theorem xj_M_drop_76 : decode xb_M_drop 76 = .ok (.ifCond .le 7, 3) := by decide +kernel
theorem xj_M_drop_79 : decode xb_M_drop 79 = .ok (.iconst 0, 1) := by decide +kernel
theorem xj_M_drop_80 : decode xb_M_drop 80 = .ok (.goto 14, 3) := by decide +kernel
theorem xj_M_drop_83 : decode xb_M_drop 83 = .ok (.iload_n 1, 1) := by decide +kernel
theorem xj_M_drop_84 : decode xb_M_drop 84 = .ok (.iconst (-1), 1) := by decide +kernel
theorem xj_M_drop_85 : decode xb_M_drop 85 = .ok (.if_icmp .ne 7, 3) := by decide +kernel
theorem xj_M_drop_88 : decode xb_M_drop 88 = .ok (.iload_n 3, 1) := by decide +kernel
theorem xj_M_drop_89 : decode xb_M_drop 89 = .ok (.goto 5, 3) := by decide +kernel
theorem xj_M_drop_92 : decode xb_M_drop 92 = .ok (.iload 4, 2) := by decide +kernel
theorem xj_M_drop_94 : decode xb_M_drop 94 = .ok (.ireturn, 1) := by decide +kernel
theorem xj_M_fewest_0 : decode xb_M_fewest 0 = .ok (.aload_n 0, 1) := by decide +kernel
theorem xj_M_fewest_1 : decode xb_M_fewest 1 = .ok (.aload_n 0, 1) := by decide +kernel
theorem xj_M_fewest_2 : decode xb_M_fewest 2 = .ok (.getfield 51, 3) := by decide +kernel
theorem xj_M_fewest_5 : decode xb_M_fewest 5 = .ok (.lconst 1, 1) := by decide +kernel
theorem xj_M_fewest_6 : decode xb_M_fewest 6 = .ok (.lconst 1, 1) := by decide +kernel
theorem xj_M_fewest_7 : decode xb_M_fewest 7 = .ok (.invokevirtual 74, 3) := by decide +kernel
theorem xj_M_fewest_10 : decode xb_M_fewest 10 = .ok (.iconst 0, 1) := by decide +kernel
theorem xj_M_fewest_11 : decode xb_M_fewest 11 = .ok (.istore_n 1, 1) := by decide +kernel
theorem xj_M_fewest_12 : decode xb_M_fewest 12 = .ok (.iload_n 1, 1) := by decide +kernel
theorem xj_M_fewest_13 : decode xb_M_fewest 13 = .ok (.aload_n 0, 1) := by decide +kernel
theorem xj_M_fewest_14 : decode xb_M_fewest 14 = .ok (.getfield 51, 3) := by decide +kernel
theorem xj_M_fewest_17 : decode xb_M_fewest 17 = .ok (.if_icmp .ge 38, 3) := by decide +kernel
theorem xj_M_fewest_20 : decode xb_M_fewest 20 = .ok (.iconst 0, 1) := by decide +kernel
theorem xj_M_fewest_21 : decode xb_M_fewest 21 = .ok (.istore_n 2, 1) := by decide +kernel
theorem xj_M_fewest_22 : decode xb_M_fewest 22 = .ok (.iload_n 2, 1) := by decide +kernel
theorem xj_M_fewest_23 : decode xb_M_fewest 23 = .ok (.iconst 1, 1) := by decide +kernel
theorem xj_M_fewest_24 : decode xb_M_fewest 24 = .ok (.aload_n 0, 1) := by decide +kernel
theorem xj_M_fewest_25 : decode xb_M_fewest 25 = .ok (.getfield 51, 3) := by decide +kernel
theorem xj_M_fewest_28 : decode xb_M_fewest 28 = .ok (.ishl, 1) := by decide +kernel
theorem xj_M_fewest_29 : decode xb_M_fewest 29 = .ok (.if_icmp .ge 20, 3) := by decide +kernel
theorem xj_M_fewest_32 : decode xb_M_fewest 32 = .ok (.aload_n 0, 1) := by decide +kernel
theorem xj_M_fewest_33 : decode xb_M_fewest 33 = .ok (.iload_n 2, 1) := by decide +kernel
theorem xj_M_fewest_34 : decode xb_M_fewest 34 = .ok (.iload_n 1, 1) := by decide +kernel
theorem xj_M_fewest_35 : decode xb_M_fewest 35 = .ok (.invokevirtual 105, 3) := by decide +kernel
theorem xj_M_fewest_38 : decode xb_M_fewest 38 = .ok (.ifCond .eq 5, 3) := by decide +kernel
theorem xj_M_fewest_41 : decode xb_M_fewest 41 = .ok (.iload_n 2, 1) := by decide +kernel
theorem xj_M_fewest_42 : decode xb_M_fewest 42 = .ok (.ireturn, 1) := by decide +kernel
theorem xj_M_fewest_43 : decode xb_M_fewest 43 = .ok (.iinc 2 1, 3) := by decide +kernel
theorem xj_M_fewest_46 : decode xb_M_fewest 46 = .ok (.goto (-24), 3) := by decide +kernel
theorem xj_M_fewest_49 : decode xb_M_fewest 49 = .ok (.iinc 1 1, 3) := by decide +kernel
theorem xj_M_fewest_52 : decode xb_M_fewest 52 = .ok (.goto (-40), 3) := by decide +kernel
theorem xj_M_fewest_55 : decode xb_M_fewest 55 = .ok (.iconst 0, 1) := by decide +kernel
theorem xj_M_fewest_56 : decode xb_M_fewest 56 = .ok (.ireturn, 1) := by decide +kernel
theorem xj_M_isEnough_0 : decode xb_M_isEnough 0 = .ok (.iconst 0, 1) := by decide +kernel
theorem xj_M_isEnough_1 : decode xb_M_isEnough 1 = .ok (.istore_n 3, 1) := by decide +kernel
theorem xj_M_isEnough_2 : decode xb_M_isEnough 2 = .ok (.iconst 0, 1) := by decide +kernel
theorem xj_M_isEnough_3 : decode xb_M_isEnough 3 = .ok (.istore 4, 2) := by decide +kernel
theorem xj_M_isEnough_5 : decode xb_M_isEnough 5 = .ok (.iload 4, 2) := by decide +kernel
theorem xj_M_isEnough_7 : decode xb_M_isEnough 7 = .ok (.aload_n 0, 1) := by decide +kernel
theorem xj_M_isEnough_8 : decode xb_M_isEnough 8 = .ok (.getfield 51, 3) := by decide +kernel
theorem xj_M_isEnough_11 : decode xb_M_isEnough 11 = .ok (.if_icmp .ge 48, 3) := by decide +kernel
theorem xj_M_isEnough_14 : decode xb_M_isEnough 14 = .ok (.aload_n 0, 1) := by decide +kernel
theorem xj_M_isEnough_15 : decode xb_M_isEnough 15 = .ok (.getfield 39, 3) := by decide +kernel
theorem xj_M_isEnough_18 : decode xb_M_isEnough 18 = .ok (.iload 4, 2) := by decide +kernel
theorem xj_M_isEnough_20 : decode xb_M_isEnough 20 = .ok (.iload_n 1, 1) := by decide +kernel
theorem xj_M_isEnough_21 : decode xb_M_isEnough 21 = .ok (.iload 4, 2) := by decide +kernel
theorem xj_M_isEnough_23 : decode xb_M_isEnough 23 = .ok (.ishr, 1) := by decide +kernel
theorem xj_M_isEnough_24 : decode xb_M_isEnough 24 = .ok (.iconst 1, 1) := by decide +kernel
theorem xj_M_isEnough_25 : decode xb_M_isEnough 25 = .ok (.iand, 1) := by decide +kernel
theorem xj_M_isEnough_26 : decode xb_M_isEnough 26 = .ok (.ifCond .ne 7, 3) := by decide +kernel
theorem xj_M_isEnough_29 : decode xb_M_isEnough 29 = .ok (.iconst 1, 1) := by decide +kernel
theorem xj_M_isEnough_30 : decode xb_M_isEnough 30 = .ok (.goto 4, 3) := by decide +kernel
theorem xj_M_isEnough_33 : decode xb_M_isEnough 33 = .ok (.iconst 0, 1) := by decide +kernel
theorem xj_M_isEnough_34 : decode xb_M_isEnough 34 = .ok (.bastore, 1) := by decide +kernel
theorem xj_M_isEnough_35 : decode xb_M_isEnough 35 = .ok (.iload_n 3, 1) := by decide +kernel
theorem xj_M_isEnough_36 : decode xb_M_isEnough 36 = .ok (.aload_n 0, 1) := by decide +kernel
theorem xj_M_isEnough_37 : decode xb_M_isEnough 37 = .ok (.getfield 39, 3) := by decide +kernel
theorem xj_M_isEnough_40 : decode xb_M_isEnough 40 = .ok (.iload 4, 2) := by decide +kernel
theorem xj_M_isEnough_42 : decode xb_M_isEnough 42 = .ok (.baload, 1) := by decide +kernel
theorem xj_M_isEnough_43 : decode xb_M_isEnough 43 = .ok (.ifCond .eq 7, 3) := by decide +kernel
theorem xj_M_isEnough_46 : decode xb_M_isEnough 46 = .ok (.iconst 0, 1) := by decide +kernel
theorem xj_M_isEnough_47 : decode xb_M_isEnough 47 = .ok (.goto 4, 3) := by decide +kernel
theorem xj_M_isEnough_50 : decode xb_M_isEnough 50 = .ok (.iconst 1, 1) := by decide +kernel
theorem xj_M_isEnough_51 : decode xb_M_isEnough 51 = .ok (.iadd, 1) := by decide +kernel
theorem xj_M_isEnough_52 : decode xb_M_isEnough 52 = .ok (.istore_n 3, 1) := by decide +kernel
theorem xj_M_isEnough_53 : decode xb_M_isEnough 53 = .ok (.iinc 4 1, 3) := by decide +kernel
theorem xj_M_isEnough_56 : decode xb_M_isEnough 56 = .ok (.goto (-51), 3) := by decide +kernel
theorem xj_M_isEnough_59 : decode xb_M_isEnough 59 = .ok (.iload_n 3, 1) := by decide +kernel
theorem xj_M_isEnough_60 : decode xb_M_isEnough 60 = .ok (.iload_n 2, 1) := by decide +kernel
theorem xj_M_isEnough_61 : decode xb_M_isEnough 61 = .ok (.if_icmp .ne 18, 3) := by decide +kernel
theorem xj_M_isEnough_64 : decode xb_M_isEnough 64 = .ok (.aload_n 0, 1) := by decide +kernel
theorem xj_M_isEnough_65 : decode xb_M_isEnough 65 = .ok (.aload_n 0, 1) := by decide +kernel
theorem xj_M_isEnough_66 : decode xb_M_isEnough 66 = .ok (.getfield 51, 3) := by decide +kernel
theorem xj_M_isEnough_69 : decode xb_M_isEnough 69 = .ok (.invokevirtual 81, 3) := by decide +kernel
theorem xj_M_isEnough_72 : decode xb_M_isEnough 72 = .ok (.ifCond .eq 7, 3) := by decide +kernel
theorem xj_M_isEnough_75 : decode xb_M_isEnough 75 = .ok (.iconst 1, 1) := by decide +kernel
theorem xj_M_isEnough_76 : decode xb_M_isEnough 76 = .ok (.goto 4, 3) := by decide +kernel
theorem xj_M_isEnough_79 : decode xb_M_isEnough 79 = .ok (.iconst 0, 1) := by decide +kernel
theorem xj_M_isEnough_80 : decode xb_M_isEnough 80 = .ok (.ireturn, 1) := by decide +kernel
theorem xj_M_offer_0 : decode xb_M_offer 0 = .ok (.aload_n 0, 1) := by decide +kernel
theorem xj_M_offer_1 : decode xb_M_offer 1 = .ok (.iload_n 1, 1) := by decide +kernel
theorem xj_M_offer_2 : decode xb_M_offer 2 = .ok (.iconst 0, 1) := by decide +kernel
theorem xj_M_offer_3 : decode xb_M_offer 3 = .ok (.aload_n 0, 1) := by decide +kernel
theorem xj_M_offer_4 : decode xb_M_offer 4 = .ok (.getfield 7, 3) := by decide +kernel
theorem xj_M_offer_7 : decode xb_M_offer 7 = .ok (.iconst 1, 1) := by decide +kernel
theorem xj_M_offer_8 : decode xb_M_offer 8 = .ok (.isub, 1) := by decide +kernel
theorem xj_M_offer_9 : decode xb_M_offer 9 = .ok (.invokestatic 54, 3) := by decide +kernel
theorem xj_M_offer_12 : decode xb_M_offer 12 = .ok (.ifCond .ne 7, 3) := by decide +kernel
theorem xj_M_offer_15 : decode xb_M_offer 15 = .ok (.iconst 1, 1) := by decide +kernel
theorem xj_M_offer_16 : decode xb_M_offer 16 = .ok (.goto 28, 3) := by decide +kernel
theorem xj_M_offer_19 : decode xb_M_offer 19 = .ok (.iload_n 2, 1) := by decide +kernel
theorem xj_M_offer_20 : decode xb_M_offer 20 = .ok (.iconst 1, 1) := by decide +kernel
theorem xj_M_offer_21 : decode xb_M_offer 21 = .ok (.bipush 99, 2) := by decide +kernel
theorem xj_M_offer_23 : decode xb_M_offer 23 = .ok (.invokestatic 54, 3) := by decide +kernel
theorem xj_M_offer_26 : decode xb_M_offer 26 = .ok (.ifCond .eq 13, 3) := by decide +kernel
theorem xj_M_offer_29 : decode xb_M_offer 29 = .ok (.iload_n 3, 1) := by decide +kernel
theorem xj_M_offer_30 : decode xb_M_offer 30 = .ok (.iconst 0, 1) := by decide +kernel
theorem xj_M_offer_31 : decode xb_M_offer 31 = .ok (.bipush 99, 2) := by decide +kernel
theorem xj_M_offer_33 : decode xb_M_offer 33 = .ok (.invokestatic 54, 3) := by decide +kernel
theorem xj_M_offer_36 : decode xb_M_offer 36 = .ok (.ifCond .ne 7, 3) := by decide +kernel
theorem xj_M_offer_39 : decode xb_M_offer 39 = .ok (.iconst 2, 1) := by decide +kernel
theorem xj_M_offer_40 : decode xb_M_offer 40 = .ok (.goto 4, 3) := by decide +kernel
theorem xj_M_offer_43 : decode xb_M_offer 43 = .ok (.iconst 0, 1) := by decide +kernel
theorem xj_M_offer_44 : decode xb_M_offer 44 = .ok (.putfield 48, 3) := by decide +kernel
theorem xj_M_offer_47 : decode xb_M_offer 47 = .ok (.aload_n 0, 1) := by decide +kernel
theorem xj_M_offer_48 : decode xb_M_offer 48 = .ok (.getfield 48, 3) := by decide +kernel
theorem xj_M_offer_51 : decode xb_M_offer 51 = .ok (.ifCond .le 4, 3) := by decide +kernel
theorem xj_M_offer_54 : decode xb_M_offer 54 = .ok (.return_, 1) := by decide +kernel
theorem xj_M_offer_55 : decode xb_M_offer 55 = .ok (.aload_n 0, 1) := by decide +kernel
theorem xj_M_offer_56 : decode xb_M_offer 56 = .ok (.getfield 20, 3) := by decide +kernel
theorem xj_M_offer_59 : decode xb_M_offer 59 = .ok (.iload_n 1, 1) := by decide +kernel
theorem xj_M_offer_60 : decode xb_M_offer 60 = .ok (.iload_n 2, 1) := by decide +kernel
theorem xj_M_offer_61 : decode xb_M_offer 61 = .ok (.iastore, 1) := by decide +kernel
theorem xj_M_offer_62 : decode xb_M_offer 62 = .ok (.aload_n 0, 1) := by decide +kernel
theorem xj_M_offer_63 : decode xb_M_offer 63 = .ok (.getfield 23, 3) := by decide +kernel
theorem xj_M_offer_66 : decode xb_M_offer 66 = .ok (.iload_n 1, 1) := by decide +kernel
theorem xj_M_offer_67 : decode xb_M_offer 67 = .ok (.iload_n 3, 1) := by decide +kernel
theorem xj_M_offer_68 : decode xb_M_offer 68 = .ok (.iastore, 1) := by decide +kernel
theorem xj_M_offer_69 : decode xb_M_offer 69 = .ok (.return_, 1) := by decide +kernel
theorem xj_M_fits_0 : decode xb_M_fits 0 = .ok (.aload_n 0, 1) := by decide +kernel
theorem xj_M_fits_1 : decode xb_M_fits 1 = .ok (.iconst 0, 1) := by decide +kernel
theorem xj_M_fits_2 : decode xb_M_fits 2 = .ok (.putfield 48, 3) := by decide +kernel
theorem xj_M_fits_5 : decode xb_M_fits 5 = .ok (.iconst 0, 1) := by decide +kernel
theorem xj_M_fits_6 : decode xb_M_fits 6 = .ok (.istore_n 1, 1) := by decide +kernel
theorem xj_M_fits_7 : decode xb_M_fits 7 = .ok (.iload_n 1, 1) := by decide +kernel
theorem xj_M_fits_8 : decode xb_M_fits 8 = .ok (.bipush 6, 2) := by decide +kernel
theorem xj_M_fits_10 : decode xb_M_fits 10 = .ok (.if_icmp .ge 49, 3) := by decide +kernel
theorem xj_M_fits_13 : decode xb_M_fits 13 = .ok (.aload_n 0, 1) := by decide +kernel
theorem xj_M_fits_14 : decode xb_M_fits 14 = .ok (.getfield 13, 3) := by decide +kernel
theorem xj_M_fits_17 : decode xb_M_fits 17 = .ok (.bipush 6, 2) := by decide +kernel
theorem xj_M_fits_19 : decode xb_M_fits 19 = .ok (.aload_n 0, 1) := by decide +kernel
theorem xj_M_fits_20 : decode xb_M_fits 20 = .ok (.getfield 51, 3) := by decide +kernel
theorem xj_M_fits_23 : decode xb_M_fits 23 = .ok (.imul, 1) := by decide +kernel
theorem xj_M_fits_24 : decode xb_M_fits 24 = .ok (.iload_n 1, 1) := by decide +kernel
theorem xj_M_fits_25 : decode xb_M_fits 25 = .ok (.iadd, 1) := by decide +kernel
theorem xj_M_fits_26 : decode xb_M_fits 26 = .ok (.aload_n 0, 1) := by decide +kernel
theorem xj_M_fits_27 : decode xb_M_fits 27 = .ok (.getfield 20, 3) := by decide +kernel
theorem xj_M_fits_30 : decode xb_M_fits 30 = .ok (.iload_n 1, 1) := by decide +kernel
theorem xj_M_fits_31 : decode xb_M_fits 31 = .ok (.iaload, 1) := by decide +kernel
theorem xj_M_fits_32 : decode xb_M_fits 32 = .ok (.iastore, 1) := by decide +kernel
theorem xj_M_fits_33 : decode xb_M_fits 33 = .ok (.aload_n 0, 1) := by decide +kernel
theorem xj_M_fits_34 : decode xb_M_fits 34 = .ok (.getfield 17, 3) := by decide +kernel
theorem xj_M_fits_37 : decode xb_M_fits 37 = .ok (.bipush 6, 2) := by decide +kernel
theorem xj_M_fits_39 : decode xb_M_fits 39 = .ok (.aload_n 0, 1) := by decide +kernel
theorem xj_M_fits_40 : decode xb_M_fits 40 = .ok (.getfield 51, 3) := by decide +kernel
theorem xj_M_fits_43 : decode xb_M_fits 43 = .ok (.imul, 1) := by decide +kernel
theorem xj_M_fits_44 : decode xb_M_fits 44 = .ok (.iload_n 1, 1) := by decide +kernel
theorem xj_M_fits_45 : decode xb_M_fits 45 = .ok (.iadd, 1) := by decide +kernel
theorem xj_M_fits_46 : decode xb_M_fits 46 = .ok (.aload_n 0, 1) := by decide +kernel
theorem xj_M_fits_47 : decode xb_M_fits 47 = .ok (.getfield 23, 3) := by decide +kernel
theorem xj_M_fits_50 : decode xb_M_fits 50 = .ok (.iload_n 1, 1) := by decide +kernel
theorem xj_M_fits_51 : decode xb_M_fits 51 = .ok (.iaload, 1) := by decide +kernel
theorem xj_M_fits_52 : decode xb_M_fits 52 = .ok (.iastore, 1) := by decide +kernel
theorem xj_M_fits_53 : decode xb_M_fits 53 = .ok (.iinc 1 1, 3) := by decide +kernel
theorem xj_M_fits_56 : decode xb_M_fits 56 = .ok (.goto (-49), 3) := by decide +kernel
theorem xj_M_fits_59 : decode xb_M_fits 59 = .ok (.aload_n 0, 1) := by decide +kernel
theorem xj_M_fits_60 : decode xb_M_fits 60 = .ok (.aload_n 0, 1) := by decide +kernel
theorem xj_M_fits_61 : decode xb_M_fits 61 = .ok (.getfield 51, 3) := by decide +kernel
theorem xj_M_fits_64 : decode xb_M_fits 64 = .ok (.iconst 1, 1) := by decide +kernel
theorem xj_M_fits_65 : decode xb_M_fits 65 = .ok (.iadd, 1) := by decide +kernel
theorem xj_M_fits_66 : decode xb_M_fits 66 = .ok (.lconst 1, 1) := by decide +kernel
theorem xj_M_fits_67 : decode xb_M_fits 67 = .ok (.lconst 1, 1) := by decide +kernel
theorem xj_M_fits_68 : decode xb_M_fits 68 = .ok (.invokevirtual 74, 3) := by decide +kernel
theorem xj_M_fits_71 : decode xb_M_fits 71 = .ok (.aload_n 0, 1) := by decide +kernel
theorem xj_M_fits_72 : decode xb_M_fits 72 = .ok (.aload_n 0, 1) := by decide +kernel
theorem xj_M_fits_73 : decode xb_M_fits 73 = .ok (.getfield 51, 3) := by decide +kernel
theorem xj_M_fits_76 : decode xb_M_fits 76 = .ok (.iconst 1, 1) := by decide +kernel
theorem xj_M_fits_77 : decode xb_M_fits 77 = .ok (.iadd, 1) := by decide +kernel
theorem xj_M_fits_78 : decode xb_M_fits 78 = .ok (.invokevirtual 81, 3) := by decide +kernel
theorem xj_M_fits_81 : decode xb_M_fits 81 = .ok (.ireturn, 1) := by decide +kernel
theorem xj_M_order_0 : decode xb_M_order 0 = .ok (.aload_n 0, 1) := by decide +kernel
theorem xj_M_order_1 : decode xb_M_order 1 = .ok (.aload_n 0, 1) := by decide +kernel
theorem xj_M_order_2 : decode xb_M_order 2 = .ok (.iload_n 1, 1) := by decide +kernel
theorem xj_M_order_3 : decode xb_M_order 3 = .ok (.invokevirtual 58, 3) := by decide +kernel
theorem xj_M_order_6 : decode xb_M_order 6 = .ok (.ifCond .eq 7, 3) := by decide +kernel
theorem xj_M_order_9 : decode xb_M_order 9 = .ok (.iconst 0, 1) := by decide +kernel
theorem xj_M_order_10 : decode xb_M_order 10 = .ok (.goto 4, 3) := by decide +kernel
theorem xj_M_order_13 : decode xb_M_order 13 = .ok (.iconst 1, 1) := by decide +kernel
theorem xj_M_order_14 : decode xb_M_order 14 = .ok (.putfield 48, 3) := by decide +kernel
theorem xj_M_order_17 : decode xb_M_order 17 = .ok (.aload_n 0, 1) := by decide +kernel
theorem xj_M_order_18 : decode xb_M_order 18 = .ok (.getfield 48, 3) := by decide +kernel
theorem xj_M_order_21 : decode xb_M_order 21 = .ok (.ifCond .le 5, 3) := by decide +kernel
theorem xj_M_order_24 : decode xb_M_order 24 = .ok (.iconst 0, 1) := by decide +kernel
theorem xj_M_order_25 : decode xb_M_order 25 = .ok (.ireturn, 1) := by decide +kernel
theorem xj_M_order_26 : decode xb_M_order 26 = .ok (.aload_n 0, 1) := by decide +kernel
theorem xj_M_order_27 : decode xb_M_order 27 = .ok (.invokevirtual 78, 3) := by decide +kernel
theorem xj_M_order_30 : decode xb_M_order 30 = .ok (.iconst (-1), 1) := by decide +kernel
theorem xj_M_order_31 : decode xb_M_order 31 = .ok (.istore_n 2, 1) := by decide +kernel
theorem xj_M_order_32 : decode xb_M_order 32 = .ok (.iconst 0, 1) := by decide +kernel
theorem xj_M_order_33 : decode xb_M_order 33 = .ok (.istore_n 3, 1) := by decide +kernel
theorem xj_M_order_34 : decode xb_M_order 34 = .ok (.iload_n 3, 1) := by decide +kernel
theorem xj_M_order_35 : decode xb_M_order 35 = .ok (.iload_n 1, 1) := by decide +kernel
theorem xj_M_order_36 : decode xb_M_order 36 = .ok (.if_icmp .gt 62, 3) := by decide +kernel
theorem xj_M_order_39 : decode xb_M_order 39 = .ok (.iconst (-1), 1) := by decide +kernel
theorem xj_M_order_40 : decode xb_M_order 40 = .ok (.istore_n 2, 1) := by decide +kernel
theorem xj_M_order_41 : decode xb_M_order 41 = .ok (.iconst 0, 1) := by decide +kernel
theorem xj_M_order_42 : decode xb_M_order 42 = .ok (.istore 4, 2) := by decide +kernel
theorem xj_M_order_44 : decode xb_M_order 44 = .ok (.iload 4, 2) := by decide +kernel
theorem xj_M_order_46 : decode xb_M_order 46 = .ok (.aload_n 0, 1) := by decide +kernel
theorem xj_M_order_47 : decode xb_M_order 47 = .ok (.getfield 51, 3) := by decide +kernel
theorem xj_M_order_50 : decode xb_M_order 50 = .ok (.if_icmp .ge 35, 3) := by decide +kernel
theorem xj_M_order_53 : decode xb_M_order 53 = .ok (.iload_n 2, 1) := by decide +kernel
theorem xj_M_order_54 : decode xb_M_order 54 = .ok (.ifCond .ge 31, 3) := by decide +kernel
theorem xj_M_order_57 : decode xb_M_order 57 = .ok (.aload_n 0, 1) := by decide +kernel
theorem xj_M_order_58 : decode xb_M_order 58 = .ok (.getfield 39, 3) := by decide +kernel
theorem xj_M_order_61 : decode xb_M_order 61 = .ok (.iload 4, 2) := by decide +kernel
theorem xj_M_order_63 : decode xb_M_order 63 = .ok (.baload, 1) := by decide +kernel
theorem xj_M_order_64 : decode xb_M_order 64 = .ok (.ifCond .eq 15, 3) := by decide +kernel
theorem xj_M_order_67 : decode xb_M_order 67 = .ok (.aload_n 0, 1) := by decide +kernel
theorem xj_M_order_68 : decode xb_M_order 68 = .ok (.iload 4, 2) := by decide +kernel
theorem xj_M_order_70 : decode xb_M_order 70 = .ok (.invokevirtual 111, 3) := by decide +kernel
theorem xj_M_order_73 : decode xb_M_order 73 = .ok (.ifCond .eq 6, 3) := by decide +kernel
theorem xj_M_order_76 : decode xb_M_order 76 = .ok (.iload 4, 2) := by decide +kernel
theorem xj_M_order_78 : decode xb_M_order 78 = .ok (.istore_n 2, 1) := by decide +kernel
theorem xj_M_order_79 : decode xb_M_order 79 = .ok (.iinc 4 1, 3) := by decide +kernel
theorem xj_M_order_82 : decode xb_M_order 82 = .ok (.goto (-38), 3) := by decide +kernel
theorem xj_M_order_85 : decode xb_M_order 85 = .ok (.aload_n 0, 1) := by decide +kernel
theorem xj_M_order_86 : decode xb_M_order 86 = .ok (.getfield 39, 3) := by decide +kernel
theorem xj_M_order_89 : decode xb_M_order 89 = .ok (.iload_n 2, 1) := by decide +kernel
theorem xj_M_order_90 : decode xb_M_order 90 = .ok (.iconst 0, 1) := by decide +kernel
theorem xj_M_order_91 : decode xb_M_order 91 = .ok (.bastore, 1) := by decide +kernel
theorem xj_M_order_92 : decode xb_M_order 92 = .ok (.iinc 3 1, 3) := by decide +kernel
theorem xj_M_order_95 : decode xb_M_order 95 = .ok (.goto (-61), 3) := by decide +kernel
theorem xj_M_order_98 : decode xb_M_order 98 = .ok (.iload_n 2, 1) := by decide +kernel
theorem xj_M_order_99 : decode xb_M_order 99 = .ok (.ireturn, 1) := by decide +kernel
theorem xj_M_isBest_0 : decode xb_M_isBest 0 = .ok (.iconst 0, 1) := by decide +kernel
theorem xj_M_isBest_1 : decode xb_M_isBest 1 = .ok (.istore_n 2, 1) := by decide +kernel
theorem xj_M_isBest_2 : decode xb_M_isBest 2 = .ok (.iload_n 2, 1) := by decide +kernel
theorem xj_M_isBest_3 : decode xb_M_isBest 3 = .ok (.aload_n 0, 1) := by decide +kernel
theorem xj_M_isBest_4 : decode xb_M_isBest 4 = .ok (.getfield 51, 3) := by decide +kernel
theorem xj_M_isBest_7 : decode xb_M_isBest 7 = .ok (.if_icmp .ge 48, 3) := by decide +kernel
theorem xj_M_isBest_10 : decode xb_M_isBest 10 = .ok (.aload_n 0, 1) := by decide +kernel
theorem xj_M_isBest_11 : decode xb_M_isBest 11 = .ok (.getfield 39, 3) := by decide +kernel
theorem xj_M_isBest_14 : decode xb_M_isBest 14 = .ok (.iload_n 2, 1) := by decide +kernel
theorem xj_M_isBest_15 : decode xb_M_isBest 15 = .ok (.baload, 1) := by decide +kernel
theorem xj_M_isBest_16 : decode xb_M_isBest 16 = .ok (.ifCond .eq 33, 3) := by decide +kernel
theorem xj_M_isBest_19 : decode xb_M_isBest 19 = .ok (.aload_n 0, 1) := by decide +kernel
theorem xj_M_isBest_20 : decode xb_M_isBest 20 = .ok (.getfield 33, 3) := by decide +kernel
theorem xj_M_isBest_23 : decode xb_M_isBest 23 = .ok (.bipush 13, 2) := by decide +kernel
theorem xj_M_isBest_25 : decode xb_M_isBest 25 = .ok (.iload_n 2, 1) := by decide +kernel
theorem xj_M_isBest_26 : decode xb_M_isBest 26 = .ok (.imul, 1) := by decide +kernel
theorem xj_M_isBest_27 : decode xb_M_isBest 27 = .ok (.iload_n 1, 1) := by decide +kernel
theorem xj_M_isBest_28 : decode xb_M_isBest 28 = .ok (.iadd, 1) := by decide +kernel
theorem xj_M_isBest_29 : decode xb_M_isBest 29 = .ok (.baload, 1) := by decide +kernel
theorem xj_M_isBest_30 : decode xb_M_isBest 30 = .ok (.ifCond .eq 19, 3) := by decide +kernel
theorem xj_M_isBest_33 : decode xb_M_isBest 33 = .ok (.aload_n 0, 1) := by decide +kernel
theorem xj_M_isBest_34 : decode xb_M_isBest 34 = .ok (.getfield 33, 3) := by decide +kernel
theorem xj_M_isBest_37 : decode xb_M_isBest 37 = .ok (.bipush 13, 2) := by decide +kernel
theorem xj_M_isBest_39 : decode xb_M_isBest 39 = .ok (.iload_n 1, 1) := by decide +kernel
theorem xj_M_isBest_40 : decode xb_M_isBest 40 = .ok (.imul, 1) := by decide +kernel
theorem xj_M_isBest_41 : decode xb_M_isBest 41 = .ok (.iload_n 2, 1) := by decide +kernel
theorem xj_M_isBest_42 : decode xb_M_isBest 42 = .ok (.iadd, 1) := by decide +kernel
theorem xj_M_isBest_43 : decode xb_M_isBest 43 = .ok (.baload, 1) := by decide +kernel
theorem xj_M_isBest_44 : decode xb_M_isBest 44 = .ok (.ifCond .ne 5, 3) := by decide +kernel
theorem xj_M_isBest_47 : decode xb_M_isBest 47 = .ok (.iconst 0, 1) := by decide +kernel
theorem xj_M_isBest_48 : decode xb_M_isBest 48 = .ok (.ireturn, 1) := by decide +kernel
theorem xj_M_isBest_49 : decode xb_M_isBest 49 = .ok (.iinc 2 1, 3) := by decide +kernel
theorem xj_M_isBest_52 : decode xb_M_isBest 52 = .ok (.goto (-50), 3) := by decide +kernel
theorem xj_M_isBest_55 : decode xb_M_isBest 55 = .ok (.iconst 1, 1) := by decide +kernel
theorem xj_M_isBest_56 : decode xb_M_isBest 56 = .ok (.ireturn, 1) := by decide +kernel
theorem xj_M_size_0 : decode xb_M_size 0 = .ok (.aload_n 0, 1) := by decide +kernel
theorem xj_M_size_1 : decode xb_M_size 1 = .ok (.iconst 0, 1) := by decide +kernel
theorem xj_M_size_2 : decode xb_M_size 2 = .ok (.putfield 48, 3) := by decide +kernel
theorem xj_M_size_5 : decode xb_M_size 5 = .ok (.aload_n 0, 1) := by decide +kernel
theorem xj_M_size_6 : decode xb_M_size 6 = .ok (.getfield 51, 3) := by decide +kernel
theorem xj_M_size_9 : decode xb_M_size 9 = .ok (.ireturn, 1) := by decide +kernel
theorem xj_I_bitCount_0 : decode xb_I_bitCount 0 = .ok (.iload_n 0, 1) := by decide +kernel
theorem xj_I_bitCount_1 : decode xb_I_bitCount 1 = .ok (.iload_n 0, 1) := by decide +kernel
theorem xj_I_bitCount_2 : decode xb_I_bitCount 2 = .ok (.iconst 1, 1) := by decide +kernel
theorem xj_I_bitCount_3 : decode xb_I_bitCount 3 = .ok (.iushr, 1) := by decide +kernel
theorem xj_I_bitCount_4 : decode xb_I_bitCount 4 = .ok (.ldc_w 265, 3) := by decide +kernel
theorem xj_I_bitCount_7 : decode xb_I_bitCount 7 = .ok (.iand, 1) := by decide +kernel
theorem xj_I_bitCount_8 : decode xb_I_bitCount 8 = .ok (.isub, 1) := by decide +kernel
theorem xj_I_bitCount_9 : decode xb_I_bitCount 9 = .ok (.istore_n 0, 1) := by decide +kernel
theorem xj_I_bitCount_10 : decode xb_I_bitCount 10 = .ok (.iload_n 0, 1) := by decide +kernel
theorem xj_I_bitCount_11 : decode xb_I_bitCount 11 = .ok (.ldc_w 266, 3) := by decide +kernel
theorem xj_I_bitCount_14 : decode xb_I_bitCount 14 = .ok (.iand, 1) := by decide +kernel
theorem xj_I_bitCount_15 : decode xb_I_bitCount 15 = .ok (.iload_n 0, 1) := by decide +kernel
theorem xj_I_bitCount_16 : decode xb_I_bitCount 16 = .ok (.iconst 2, 1) := by decide +kernel
theorem xj_I_bitCount_17 : decode xb_I_bitCount 17 = .ok (.iushr, 1) := by decide +kernel
theorem xj_I_bitCount_18 : decode xb_I_bitCount 18 = .ok (.ldc_w 266, 3) := by decide +kernel
theorem xj_I_bitCount_21 : decode xb_I_bitCount 21 = .ok (.iand, 1) := by decide +kernel
theorem xj_I_bitCount_22 : decode xb_I_bitCount 22 = .ok (.iadd, 1) := by decide +kernel
theorem xj_I_bitCount_23 : decode xb_I_bitCount 23 = .ok (.istore_n 0, 1) := by decide +kernel
theorem xj_I_bitCount_24 : decode xb_I_bitCount 24 = .ok (.iload_n 0, 1) := by decide +kernel
theorem xj_I_bitCount_25 : decode xb_I_bitCount 25 = .ok (.iload_n 0, 1) := by decide +kernel
theorem xj_I_bitCount_26 : decode xb_I_bitCount 26 = .ok (.iconst 4, 1) := by decide +kernel
theorem xj_I_bitCount_27 : decode xb_I_bitCount 27 = .ok (.iushr, 1) := by decide +kernel
theorem xj_I_bitCount_28 : decode xb_I_bitCount 28 = .ok (.iadd, 1) := by decide +kernel
theorem xj_I_bitCount_29 : decode xb_I_bitCount 29 = .ok (.ldc_w 267, 3) := by decide +kernel
theorem xj_I_bitCount_32 : decode xb_I_bitCount 32 = .ok (.iand, 1) := by decide +kernel
theorem xj_I_bitCount_33 : decode xb_I_bitCount 33 = .ok (.istore_n 0, 1) := by decide +kernel
theorem xj_I_bitCount_34 : decode xb_I_bitCount 34 = .ok (.iload_n 0, 1) := by decide +kernel
theorem xj_I_bitCount_35 : decode xb_I_bitCount 35 = .ok (.iload_n 0, 1) := by decide +kernel
theorem xj_I_bitCount_36 : decode xb_I_bitCount 36 = .ok (.bipush 8, 2) := by decide +kernel
theorem xj_I_bitCount_38 : decode xb_I_bitCount 38 = .ok (.iushr, 1) := by decide +kernel
theorem xj_I_bitCount_39 : decode xb_I_bitCount 39 = .ok (.iadd, 1) := by decide +kernel
theorem xj_I_bitCount_40 : decode xb_I_bitCount 40 = .ok (.istore_n 0, 1) := by decide +kernel
theorem xj_I_bitCount_41 : decode xb_I_bitCount 41 = .ok (.iload_n 0, 1) := by decide +kernel
theorem xj_I_bitCount_42 : decode xb_I_bitCount 42 = .ok (.iload_n 0, 1) := by decide +kernel
theorem xj_I_bitCount_43 : decode xb_I_bitCount 43 = .ok (.bipush 16, 2) := by decide +kernel
theorem xj_I_bitCount_45 : decode xb_I_bitCount 45 = .ok (.iushr, 1) := by decide +kernel
theorem xj_I_bitCount_46 : decode xb_I_bitCount 46 = .ok (.iadd, 1) := by decide +kernel
theorem xj_I_bitCount_47 : decode xb_I_bitCount 47 = .ok (.istore_n 0, 1) := by decide +kernel
theorem xj_I_bitCount_48 : decode xb_I_bitCount 48 = .ok (.iload_n 0, 1) := by decide +kernel
theorem xj_I_bitCount_49 : decode xb_I_bitCount 49 = .ok (.bipush 63, 2) := by decide +kernel
theorem xj_I_bitCount_51 : decode xb_I_bitCount 51 = .ok (.iand, 1) := by decide +kernel
theorem xj_I_bitCount_52 : decode xb_I_bitCount 52 = .ok (.ireturn, 1) := by decide +kernel

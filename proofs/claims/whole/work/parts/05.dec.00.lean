/-! decode rows -/
theorem xj_L_init_0 : decode xb_L_init 0 = .ok (.aload_n 0, 1) := by decide +kernel
theorem xj_L_init_1 : decode xb_L_init 1 = .ok (.invokespecial 3, 3) := by decide +kernel
theorem xj_L_init_4 : decode xb_L_init 4 = .ok (.aload_n 0, 1) := by decide +kernel
theorem xj_L_init_5 : decode xb_L_init 5 = .ok (.new 9, 3) := by decide +kernel
theorem xj_L_init_8 : decode xb_L_init 8 = .ok (.dup, 1) := by decide +kernel
theorem xj_L_init_9 : decode xb_L_init 9 = .ok (.invokespecial 11, 3) := by decide +kernel
theorem xj_L_init_12 : decode xb_L_init 12 = .ok (.putfield 12, 3) := by decide +kernel
theorem xj_L_init_15 : decode xb_L_init 15 = .ok (.aload_n 0, 1) := by decide +kernel
theorem xj_L_init_16 : decode xb_L_init 16 = .ok (.new 16, 3) := by decide +kernel
theorem xj_L_init_19 : decode xb_L_init 19 = .ok (.dup, 1) := by decide +kernel
theorem xj_L_init_20 : decode xb_L_init 20 = .ok (.invokespecial 18, 3) := by decide +kernel
theorem xj_L_init_23 : decode xb_L_init 23 = .ok (.putfield 19, 3) := by decide +kernel
theorem xj_L_init_26 : decode xb_L_init 26 = .ok (.aload_n 0, 1) := by decide +kernel
theorem xj_L_init_27 : decode xb_L_init 27 = .ok (.new 23, 3) := by decide +kernel
theorem xj_L_init_30 : decode xb_L_init 30 = .ok (.dup, 1) := by decide +kernel
theorem xj_L_init_31 : decode xb_L_init 31 = .ok (.invokespecial 25, 3) := by decide +kernel
theorem xj_L_init_34 : decode xb_L_init 34 = .ok (.putfield 26, 3) := by decide +kernel
theorem xj_L_init_37 : decode xb_L_init 37 = .ok (.aload_n 0, 1) := by decide +kernel
theorem xj_L_init_38 : decode xb_L_init 38 = .ok (.new 30, 3) := by decide +kernel
theorem xj_L_init_41 : decode xb_L_init 41 = .ok (.dup, 1) := by decide +kernel
theorem xj_L_init_42 : decode xb_L_init 42 = .ok (.invokespecial 32, 3) := by decide +kernel
theorem xj_L_init_45 : decode xb_L_init 45 = .ok (.putfield 33, 3) := by decide +kernel
theorem xj_L_init_48 : decode xb_L_init 48 = .ok (.aload_n 0, 1) := by decide +kernel
theorem xj_L_init_49 : decode xb_L_init 49 = .ok (.new 37, 3) := by decide +kernel
theorem xj_L_init_52 : decode xb_L_init 52 = .ok (.dup, 1) := by decide +kernel
theorem xj_L_init_53 : decode xb_L_init 53 = .ok (.invokespecial 39, 3) := by decide +kernel
theorem xj_L_init_56 : decode xb_L_init 56 = .ok (.putfield 40, 3) := by decide +kernel
theorem xj_L_init_59 : decode xb_L_init 59 = .ok (.aload_n 0, 1) := by decide +kernel
theorem xj_L_init_60 : decode xb_L_init 60 = .ok (.getfield 12, 3) := by decide +kernel
theorem xj_L_init_63 : decode xb_L_init 63 = .ok (.iconst 1, 1) := by decide +kernel
theorem xj_L_init_64 : decode xb_L_init 64 = .ok (.invokevirtual 44, 3) := by decide +kernel
theorem xj_L_init_67 : decode xb_L_init 67 = .ok (.return_, 1) := by decide +kernel
theorem xj_B_init_0 : decode xb_B_init 0 = .ok (.aload_n 0, 1) := by decide +kernel
theorem xj_B_init_1 : decode xb_B_init 1 = .ok (.invokespecial 3, 3) := by decide +kernel
theorem xj_B_init_4 : decode xb_B_init 4 = .ok (.aload_n 0, 1) := by decide +kernel
theorem xj_B_init_5 : decode xb_B_init 5 = .ok (.bipush 78, 2) := by decide +kernel
theorem xj_B_init_7 : decode xb_B_init 7 = .ok (.newarray .int, 2) := by decide +kernel
theorem xj_B_init_9 : decode xb_B_init 9 = .ok (.putfield 9, 3) := by decide +kernel
theorem xj_B_init_12 : decode xb_B_init 12 = .ok (.aload_n 0, 1) := by decide +kernel
theorem xj_B_init_13 : decode xb_B_init 13 = .ok (.bipush 78, 2) := by decide +kernel
theorem xj_B_init_15 : decode xb_B_init 15 = .ok (.newarray .int, 2) := by decide +kernel
theorem xj_B_init_17 : decode xb_B_init 17 = .ok (.putfield 15, 3) := by decide +kernel
theorem xj_B_init_20 : decode xb_B_init 20 = .ok (.return_, 1) := by decide +kernel
theorem xj_R_init_0 : decode xb_R_init 0 = .ok (.aload_n 0, 1) := by decide +kernel
theorem xj_R_init_1 : decode xb_R_init 1 = .ok (.invokespecial 3, 3) := by decide +kernel
theorem xj_R_init_4 : decode xb_R_init 4 = .ok (.aload_n 0, 1) := by decide +kernel
theorem xj_R_init_5 : decode xb_R_init 5 = .ok (.bipush 13, 2) := by decide +kernel
theorem xj_R_init_7 : decode xb_R_init 7 = .ok (.newarray .int, 2) := by decide +kernel
theorem xj_R_init_9 : decode xb_R_init 9 = .ok (.putfield 9, 3) := by decide +kernel
theorem xj_R_init_12 : decode xb_R_init 12 = .ok (.aload_n 0, 1) := by decide +kernel
theorem xj_R_init_13 : decode xb_R_init 13 = .ok (.bipush 13, 2) := by decide +kernel
theorem xj_R_init_15 : decode xb_R_init 15 = .ok (.newarray .int, 2) := by decide +kernel
theorem xj_R_init_17 : decode xb_R_init 17 = .ok (.putfield 15, 3) := by decide +kernel
theorem xj_R_init_20 : decode xb_R_init 20 = .ok (.aload_n 0, 1) := by decide +kernel
theorem xj_R_init_21 : decode xb_R_init 21 = .ok (.bipush 13, 2) := by decide +kernel
theorem xj_R_init_23 : decode xb_R_init 23 = .ok (.newarray .int, 2) := by decide +kernel
theorem xj_R_init_25 : decode xb_R_init 25 = .ok (.putfield 18, 3) := by decide +kernel
theorem xj_R_init_28 : decode xb_R_init 28 = .ok (.return_, 1) := by decide +kernel
theorem xj_C_init_0 : decode xb_C_init 0 = .ok (.aload_n 0, 1) := by decide +kernel
theorem xj_C_init_1 : decode xb_C_init 1 = .ok (.invokespecial 3, 3) := by decide +kernel
theorem xj_C_init_4 : decode xb_C_init 4 = .ok (.aload_n 0, 1) := by decide +kernel
theorem xj_C_init_5 : decode xb_C_init 5 = .ok (.bipush 13, 2) := by decide +kernel
theorem xj_C_init_7 : decode xb_C_init 7 = .ok (.newarray .int, 2) := by decide +kernel
theorem xj_C_init_9 : decode xb_C_init 9 = .ok (.putfield 9, 3) := by decide +kernel
theorem xj_C_init_12 : decode xb_C_init 12 = .ok (.aload_n 0, 1) := by decide +kernel
theorem xj_C_init_13 : decode xb_C_init 13 = .ok (.bipush 13, 2) := by decide +kernel
theorem xj_C_init_15 : decode xb_C_init 15 = .ok (.newarray .int, 2) := by decide +kernel
theorem xj_C_init_17 : decode xb_C_init 17 = .ok (.putfield 15, 3) := by decide +kernel
theorem xj_C_init_20 : decode xb_C_init 20 = .ok (.aload_n 0, 1) := by decide +kernel
theorem xj_C_init_21 : decode xb_C_init 21 = .ok (.bipush 12, 2) := by decide +kernel
theorem xj_C_init_23 : decode xb_C_init 23 = .ok (.newarray .int, 2) := by decide +kernel
theorem xj_C_init_25 : decode xb_C_init 25 = .ok (.putfield 18, 3) := by decide +kernel
theorem xj_C_init_28 : decode xb_C_init 28 = .ok (.return_, 1) := by decide +kernel
theorem xj_D_init_0 : decode xb_D_init 0 = .ok (.aload_n 0, 1) := by decide +kernel
theorem xj_D_init_1 : decode xb_D_init 1 = .ok (.invokespecial 1, 3) := by decide +kernel
theorem xj_D_init_4 : decode xb_D_init 4 = .ok (.return_, 1) := by decide +kernel
theorem xj_S_init_0 : decode xb_S_init 0 = .ok (.aload_n 0, 1) := by decide +kernel
theorem xj_S_init_1 : decode xb_S_init 1 = .ok (.invokespecial 3, 3) := by decide +kernel
theorem xj_S_init_4 : decode xb_S_init 4 = .ok (.aload_n 0, 1) := by decide +kernel
theorem xj_S_init_5 : decode xb_S_init 5 = .ok (.sipush 144, 3) := by decide +kernel
theorem xj_S_init_8 : decode xb_S_init 8 = .ok (.newarray .int, 2) := by decide +kernel
theorem xj_S_init_10 : decode xb_S_init 10 = .ok (.putfield 9, 3) := by decide +kernel
theorem xj_S_init_13 : decode xb_S_init 13 = .ok (.aload_n 0, 1) := by decide +kernel
theorem xj_S_init_14 : decode xb_S_init 14 = .ok (.sipush 144, 3) := by decide +kernel
theorem xj_S_init_17 : decode xb_S_init 17 = .ok (.newarray .int, 2) := by decide +kernel
theorem xj_S_init_19 : decode xb_S_init 19 = .ok (.putfield 15, 3) := by decide +kernel
theorem xj_S_init_22 : decode xb_S_init 22 = .ok (.return_, 1) := by decide +kernel
theorem xj_B_start_0 : decode xb_B_start 0 = .ok (.aload_n 0, 1) := by decide +kernel
theorem xj_B_start_1 : decode xb_B_start 1 = .ok (.iload_n 1, 1) := by decide +kernel
theorem xj_B_start_2 : decode xb_B_start 2 = .ok (.putfield 18, 3) := by decide +kernel
theorem xj_B_start_5 : decode xb_B_start 5 = .ok (.aload_n 0, 1) := by decide +kernel
theorem xj_B_start_6 : decode xb_B_start 6 = .ok (.iconst 0, 1) := by decide +kernel
theorem xj_B_start_7 : decode xb_B_start 7 = .ok (.putfield 22, 3) := by decide +kernel
theorem xj_B_start_10 : decode xb_B_start 10 = .ok (.aload_n 0, 1) := by decide +kernel
theorem xj_B_start_11 : decode xb_B_start 11 = .ok (.bipush 12, 2) := by decide +kernel
theorem xj_B_start_13 : decode xb_B_start 13 = .ok (.invokevirtual 25, 3) := by decide +kernel
theorem xj_B_start_16 : decode xb_B_start 16 = .ok (.return_, 1) := by decide +kernel
theorem xj_B_clearRow_0 : decode xb_B_clearRow 0 = .ok (.iconst 0, 1) := by decide +kernel
theorem xj_B_clearRow_1 : decode xb_B_clearRow 1 = .ok (.istore_n 2, 1) := by decide +kernel
theorem xj_B_clearRow_2 : decode xb_B_clearRow 2 = .ok (.iload_n 2, 1) := by decide +kernel
theorem xj_B_clearRow_3 : decode xb_B_clearRow 3 = .ok (.bipush 6, 2) := by decide +kernel
theorem xj_B_clearRow_5 : decode xb_B_clearRow 5 = .ok (.if_icmp .ge 33, 3) := by decide +kernel
theorem xj_B_clearRow_8 : decode xb_B_clearRow 8 = .ok (.aload_n 0, 1) := by decide +kernel
theorem xj_B_clearRow_9 : decode xb_B_clearRow 9 = .ok (.getfield 9, 3) := by decide +kernel
theorem xj_B_clearRow_12 : decode xb_B_clearRow 12 = .ok (.iload_n 1, 1) := by decide +kernel
theorem xj_B_clearRow_13 : decode xb_B_clearRow 13 = .ok (.bipush 6, 2) := by decide +kernel
theorem xj_B_clearRow_15 : decode xb_B_clearRow 15 = .ok (.imul, 1) := by decide +kernel
theorem xj_B_clearRow_16 : decode xb_B_clearRow 16 = .ok (.iload_n 2, 1) := by decide +kernel
theorem xj_B_clearRow_17 : decode xb_B_clearRow 17 = .ok (.iadd, 1) := by decide +kernel
theorem xj_B_clearRow_18 : decode xb_B_clearRow 18 = .ok (.iconst 1, 1) := by decide +kernel
theorem xj_B_clearRow_19 : decode xb_B_clearRow 19 = .ok (.iastore, 1) := by decide +kernel
theorem xj_B_clearRow_20 : decode xb_B_clearRow 20 = .ok (.aload_n 0, 1) := by decide +kernel
theorem xj_B_clearRow_21 : decode xb_B_clearRow 21 = .ok (.getfield 15, 3) := by decide +kernel
theorem xj_B_clearRow_24 : decode xb_B_clearRow 24 = .ok (.iload_n 1, 1) := by decide +kernel
theorem xj_B_clearRow_25 : decode xb_B_clearRow 25 = .ok (.bipush 6, 2) := by decide +kernel
theorem xj_B_clearRow_27 : decode xb_B_clearRow 27 = .ok (.imul, 1) := by decide +kernel
theorem xj_B_clearRow_28 : decode xb_B_clearRow 28 = .ok (.iload_n 2, 1) := by decide +kernel
theorem xj_B_clearRow_29 : decode xb_B_clearRow 29 = .ok (.iadd, 1) := by decide +kernel
theorem xj_B_clearRow_30 : decode xb_B_clearRow 30 = .ok (.iconst 0, 1) := by decide +kernel
theorem xj_B_clearRow_31 : decode xb_B_clearRow 31 = .ok (.iastore, 1) := by decide +kernel
theorem xj_B_clearRow_32 : decode xb_B_clearRow 32 = .ok (.iinc 2 1, 3) := by decide +kernel
theorem xj_B_clearRow_35 : decode xb_B_clearRow 35 = .ok (.goto (-33), 3) := by decide +kernel
theorem xj_B_clearRow_38 : decode xb_B_clearRow 38 = .ok (.return_, 1) := by decide +kernel
theorem xj_L_fits_0 : decode xb_L_fits 0 = .ok (.aload_n 0, 1) := by decide +kernel
theorem xj_L_fits_1 : decode xb_L_fits 1 = .ok (.getfield 12, 3) := by decide +kernel
theorem xj_L_fits_4 : decode xb_L_fits 4 = .ok (.invokevirtual 103, 3) := by decide +kernel
theorem xj_L_fits_7 : decode xb_L_fits 7 = .ok (.bipush 12, 2) := by decide +kernel
theorem xj_L_fits_9 : decode xb_L_fits 9 = .ok (.invokestatic 159, 3) := by decide +kernel
theorem xj_L_fits_12 : decode xb_L_fits 12 = .ok (.ior, 1) := by decide +kernel
theorem xj_L_fits_13 : decode xb_L_fits 13 = .ok (.istore_n 1, 1) := by decide +kernel
theorem xj_L_fits_14 : decode xb_L_fits 14 = .ok (.aload_n 0, 1) := by decide +kernel
theorem xj_L_fits_15 : decode xb_L_fits 15 = .ok (.getfield 19, 3) := by decide +kernel
theorem xj_L_fits_18 : decode xb_L_fits 18 = .ok (.aload_n 0, 1) := by decide +kernel
theorem xj_L_fits_19 : decode xb_L_fits 19 = .ok (.getfield 12, 3) := by decide +kernel
theorem xj_L_fits_22 : decode xb_L_fits 22 = .ok (.iload_n 1, 1) := by decide +kernel
theorem xj_L_fits_23 : decode xb_L_fits 23 = .ok (.iconst 1, 1) := by decide +kernel
theorem xj_L_fits_24 : decode xb_L_fits 24 = .ok (.iconst 1, 1) := by decide +kernel
theorem xj_L_fits_25 : decode xb_L_fits 25 = .ok (.invokevirtual 132, 3) := by decide +kernel
theorem xj_L_fits_28 : decode xb_L_fits 28 = .ok (.aload_n 0, 1) := by decide +kernel
theorem xj_L_fits_29 : decode xb_L_fits 29 = .ok (.getfield 19, 3) := by decide +kernel
theorem xj_L_fits_32 : decode xb_L_fits 32 = .ok (.iload_n 1, 1) := by decide +kernel
theorem xj_L_fits_33 : decode xb_L_fits 33 = .ok (.invokevirtual 106, 3) := by decide +kernel
theorem xj_L_fits_36 : decode xb_L_fits 36 = .ok (.ireturn, 1) := by decide +kernel
theorem xj_B_everyDay_0 : decode xb_B_everyDay 0 = .ok (.aload_n 0, 1) := by decide +kernel
theorem xj_B_everyDay_1 : decode xb_B_everyDay 1 = .ok (.getfield 22, 3) := by decide +kernel
theorem xj_B_everyDay_4 : decode xb_B_everyDay 4 = .ok (.invokestatic 29, 3) := by decide +kernel
theorem xj_B_everyDay_7 : decode xb_B_everyDay 7 = .ok (.iconst 1, 1) := by decide +kernel
theorem xj_B_everyDay_8 : decode xb_B_everyDay 8 = .ok (.isub, 1) := by decide +kernel
theorem xj_B_everyDay_9 : decode xb_B_everyDay 9 = .ok (.ireturn, 1) := by decide +kernel
theorem xj_L_bit_0 : decode xb_L_bit 0 = .ok (.iconst 1, 1) := by decide +kernel
theorem xj_L_bit_1 : decode xb_L_bit 1 = .ok (.iload_n 0, 1) := by decide +kernel
theorem xj_L_bit_2 : decode xb_L_bit 2 = .ok (.ishl, 1) := by decide +kernel
theorem xj_L_bit_3 : decode xb_L_bit 3 = .ok (.ireturn, 1) := by decide +kernel
theorem xj_R_read_0 : decode xb_R_read 0 = .ok (.iconst 0, 1) := by decide +kernel
theorem xj_R_read_1 : decode xb_R_read 1 = .ok (.istore 5, 2) := by decide +kernel
theorem xj_R_read_3 : decode xb_R_read 3 = .ok (.iload 5, 2) := by decide +kernel
theorem xj_R_read_5 : decode xb_R_read 5 = .ok (.bipush 13, 2) := by decide +kernel
theorem xj_R_read_7 : decode xb_R_read 7 = .ok (.if_icmp .ge 47, 3) := by decide +kernel
theorem xj_R_read_10 : decode xb_R_read 10 = .ok (.aload_n 0, 1) := by decide +kernel
theorem xj_R_read_11 : decode xb_R_read 11 = .ok (.getfield 9, 3) := by decide +kernel
theorem xj_R_read_14 : decode xb_R_read 14 = .ok (.iload 5, 2) := by decide +kernel
theorem xj_R_read_16 : decode xb_R_read 16 = .ok (.iconst 0, 1) := by decide +kernel
theorem xj_R_read_17 : decode xb_R_read 17 = .ok (.iastore, 1) := by decide +kernel
theorem xj_R_read_18 : decode xb_R_read 18 = .ok (.aload_n 0, 1) := by decide +kernel
theorem xj_R_read_19 : decode xb_R_read 19 = .ok (.getfield 15, 3) := by decide +kernel
theorem xj_R_read_22 : decode xb_R_read 22 = .ok (.iload 5, 2) := by decide +kernel
theorem xj_R_read_24 : decode xb_R_read 24 = .ok (.iconst 0, 1) := by decide +kernel
theorem xj_R_read_25 : decode xb_R_read 25 = .ok (.iastore, 1) := by decide +kernel
theorem xj_R_read_26 : decode xb_R_read 26 = .ok (.iload_n 2, 1) := by decide +kernel
theorem xj_R_read_27 : decode xb_R_read 27 = .ok (.iload 5, 2) := by decide +kernel
theorem xj_R_read_29 : decode xb_R_read 29 = .ok (.invokestatic 21, 3) := by decide +kernel
theorem xj_R_read_32 : decode xb_R_read 32 = .ok (.ifCond .eq 16, 3) := by decide +kernel
theorem xj_R_read_35 : decode xb_R_read 35 = .ok (.aload_n 0, 1) := by decide +kernel
theorem xj_R_read_36 : decode xb_R_read 36 = .ok (.aload_n 1, 1) := by decide +kernel
theorem xj_R_read_37 : decode xb_R_read 37 = .ok (.iload_n 2, 1) := by decide +kernel
theorem xj_R_read_38 : decode xb_R_read 38 = .ok (.iload 5, 2) := by decide +kernel
theorem xj_R_read_40 : decode xb_R_read 40 = .ok (.iload_n 3, 1) := by decide +kernel
theorem xj_R_read_41 : decode xb_R_read 41 = .ok (.i2l, 1) := by decide +kernel
theorem xj_R_read_42 : decode xb_R_read 42 = .ok (.iload 4, 2) := by decide +kernel
theorem xj_R_read_44 : decode xb_R_read 44 = .ok (.i2l, 1) := by decide +kernel
theorem xj_R_read_45 : decode xb_R_read 45 = .ok (.invokevirtual 25, 3) := by decide +kernel
theorem xj_R_read_48 : decode xb_R_read 48 = .ok (.iinc 5 1, 3) := by decide +kernel
theorem xj_R_read_51 : decode xb_R_read 51 = .ok (.goto (-48), 3) := by decide +kernel
theorem xj_R_read_54 : decode xb_R_read 54 = .ok (.return_, 1) := by decide +kernel
theorem xj_L_has_0 : decode xb_L_has 0 = .ok (.iload_n 0, 1) := by decide +kernel
theorem xj_L_has_1 : decode xb_L_has 1 = .ok (.iload_n 1, 1) := by decide +kernel
theorem xj_L_has_2 : decode xb_L_has 2 = .ok (.invokestatic 159, 3) := by decide +kernel
theorem xj_L_has_5 : decode xb_L_has 5 = .ok (.iand, 1) := by decide +kernel
theorem xj_L_has_6 : decode xb_L_has 6 = .ok (.ifCond .eq 7, 3) := by decide +kernel
theorem xj_L_has_9 : decode xb_L_has 9 = .ok (.iconst 1, 1) := by decide +kernel
theorem xj_L_has_10 : decode xb_L_has 10 = .ok (.goto 4, 3) := by decide +kernel
theorem xj_L_has_13 : decode xb_L_has 13 = .ok (.iconst 0, 1) := by decide +kernel
theorem xj_L_has_14 : decode xb_L_has 14 = .ok (.ireturn, 1) := by decide +kernel
theorem xj_R_readRow_0 : decode xb_R_readRow 0 = .ok (.lload 4, 2) := by decide +kernel
theorem xj_R_readRow_2 : decode xb_R_readRow 2 = .ok (.aload_n 1, 1) := by decide +kernel
theorem xj_R_readRow_3 : decode xb_R_readRow 3 = .ok (.iload_n 3, 1) := by decide +kernel
theorem xj_R_readRow_4 : decode xb_R_readRow 4 = .ok (.iload_n 3, 1) := by decide +kernel
theorem xj_R_readRow_5 : decode xb_R_readRow 5 = .ok (.invokevirtual 29, 3) := by decide +kernel
theorem xj_R_readRow_8 : decode xb_R_readRow 8 = .ok (.i2l, 1) := by decide +kernel
theorem xj_R_readRow_9 : decode xb_R_readRow 9 = .ok (.lmul, 1) := by decide +kernel
theorem xj_R_readRow_10 : decode xb_R_readRow 10 = .ok (.lstore 8, 2) := by decide +kernel
theorem xj_R_readRow_12 : decode xb_R_readRow 12 = .ok (.aload_n 0, 1) := by decide +kernel
theorem xj_R_readRow_13 : decode xb_R_readRow 13 = .ok (.getfield 9, 3) := by decide +kernel
theorem xj_R_readRow_16 : decode xb_R_readRow 16 = .ok (.iload_n 3, 1) := by decide +kernel
theorem xj_R_readRow_17 : decode xb_R_readRow 17 = .ok (.iload_n 3, 1) := by decide +kernel
theorem xj_R_readRow_18 : decode xb_R_readRow 18 = .ok (.invokestatic 35, 3) := by decide +kernel
theorem xj_R_readRow_21 : decode xb_R_readRow 21 = .ok (.iastore, 1) := by decide +kernel
theorem xj_R_readRow_22 : decode xb_R_readRow 22 = .ok (.iconst 0, 1) := by decide +kernel
theorem xj_R_readRow_23 : decode xb_R_readRow 23 = .ok (.istore 10, 2) := by decide +kernel
theorem xj_R_readRow_25 : decode xb_R_readRow 25 = .ok (.iload 10, 2) := by decide +kernel
theorem xj_R_readRow_27 : decode xb_R_readRow 27 = .ok (.bipush 13, 2) := by decide +kernel
theorem xj_R_readRow_29 : decode xb_R_readRow 29 = .ok (.if_icmp .ge 89, 3) := by decide +kernel
theorem xj_R_readRow_32 : decode xb_R_readRow 32 = .ok (.iload 10, 2) := by decide +kernel
theorem xj_R_readRow_34 : decode xb_R_readRow 34 = .ok (.iload_n 3, 1) := by decide +kernel
theorem xj_R_readRow_35 : decode xb_R_readRow 35 = .ok (.if_icmp .eq 77, 3) := by decide +kernel
theorem xj_R_readRow_38 : decode xb_R_readRow 38 = .ok (.iload_n 2, 1) := by decide +kernel
theorem xj_R_readRow_39 : decode xb_R_readRow 39 = .ok (.iload 10, 2) := by decide +kernel
theorem xj_R_readRow_41 : decode xb_R_readRow 41 = .ok (.invokestatic 21, 3) := by decide +kernel
theorem xj_R_readRow_44 : decode xb_R_readRow 44 = .ok (.ifCond .eq 68, 3) := by decide +kernel
theorem xj_R_readRow_47 : decode xb_R_readRow 47 = .ok (.lload 6, 2) := by decide +kernel
theorem xj_R_readRow_49 : decode xb_R_readRow 49 = .ok (.aload_n 1, 1) := by decide +kernel
theorem xj_R_readRow_50 : decode xb_R_readRow 50 = .ok (.iload_n 3, 1) := by decide +kernel
theorem xj_R_readRow_51 : decode xb_R_readRow 51 = .ok (.iload 10, 2) := by decide +kernel
theorem xj_R_readRow_53 : decode xb_R_readRow 53 = .ok (.invokevirtual 29, 3) := by decide +kernel
theorem xj_R_readRow_56 : decode xb_R_readRow 56 = .ok (.i2l, 1) := by decide +kernel
theorem xj_R_readRow_57 : decode xb_R_readRow 57 = .ok (.lmul, 1) := by decide +kernel
theorem xj_R_readRow_58 : decode xb_R_readRow 58 = .ok (.lstore 11, 2) := by decide +kernel
theorem xj_R_readRow_60 : decode xb_R_readRow 60 = .ok (.aload_n 0, 1) := by decide +kernel
theorem xj_R_readRow_61 : decode xb_R_readRow 61 = .ok (.getfield 9, 3) := by decide +kernel
theorem xj_R_readRow_64 : decode xb_R_readRow 64 = .ok (.iload_n 3, 1) := by decide +kernel
theorem xj_R_readRow_65 : decode xb_R_readRow 65 = .ok (.dup2, 1) := by decide +kernel
theorem xj_R_readRow_66 : decode xb_R_readRow 66 = .ok (.iaload, 1) := by decide +kernel
theorem xj_R_readRow_67 : decode xb_R_readRow 67 = .ok (.lload 11, 2) := by decide +kernel
theorem xj_R_readRow_69 : decode xb_R_readRow 69 = .ok (.lload 8, 2) := by decide +kernel
theorem xj_R_readRow_71 : decode xb_R_readRow 71 = .ok (.lcmp, 1) := by decide +kernel
theorem xj_R_readRow_72 : decode xb_R_readRow 72 = .ok (.ifCond .gt 11, 3) := by decide +kernel
theorem xj_R_readRow_75 : decode xb_R_readRow 75 = .ok (.iload 10, 2) := by decide +kernel
theorem xj_R_readRow_77 : decode xb_R_readRow 77 = .ok (.invokestatic 35, 3) := by decide +kernel
theorem xj_R_readRow_80 : decode xb_R_readRow 80 = .ok (.goto 4, 3) := by decide +kernel
theorem xj_R_readRow_83 : decode xb_R_readRow 83 = .ok (.iconst 0, 1) := by decide +kernel
theorem xj_R_readRow_84 : decode xb_R_readRow 84 = .ok (.ior, 1) := by decide +kernel
theorem xj_R_readRow_85 : decode xb_R_readRow 85 = .ok (.iastore, 1) := by decide +kernel
theorem xj_R_readRow_86 : decode xb_R_readRow 86 = .ok (.aload_n 0, 1) := by decide +kernel
theorem xj_R_readRow_87 : decode xb_R_readRow 87 = .ok (.getfield 15, 3) := by decide +kernel
theorem xj_R_readRow_90 : decode xb_R_readRow 90 = .ok (.iload_n 3, 1) := by decide +kernel
theorem xj_R_readRow_91 : decode xb_R_readRow 91 = .ok (.dup2, 1) := by decide +kernel
theorem xj_R_readRow_92 : decode xb_R_readRow 92 = .ok (.iaload, 1) := by decide +kernel
theorem xj_R_readRow_93 : decode xb_R_readRow 93 = .ok (.lload 11, 2) := by decide +kernel
theorem xj_R_readRow_95 : decode xb_R_readRow 95 = .ok (.lload 8, 2) := by decide +kernel
theorem xj_R_readRow_97 : decode xb_R_readRow 97 = .ok (.lcmp, 1) := by decide +kernel
theorem xj_R_readRow_98 : decode xb_R_readRow 98 = .ok (.ifCond .ge 11, 3) := by decide +kernel
theorem xj_R_readRow_101 : decode xb_R_readRow 101 = .ok (.iload 10, 2) := by decide +kernel
theorem xj_R_readRow_103 : decode xb_R_readRow 103 = .ok (.invokestatic 35, 3) := by decide +kernel
theorem xj_R_readRow_106 : decode xb_R_readRow 106 = .ok (.goto 4, 3) := by decide +kernel
theorem xj_R_readRow_109 : decode xb_R_readRow 109 = .ok (.iconst 0, 1) := by decide +kernel
theorem xj_R_readRow_110 : decode xb_R_readRow 110 = .ok (.ior, 1) := by decide +kernel
theorem xj_R_readRow_111 : decode xb_R_readRow 111 = .ok (.iastore, 1) := by decide +kernel
theorem xj_R_readRow_112 : decode xb_R_readRow 112 = .ok (.iinc 10 1, 3) := by decide +kernel
theorem xj_R_readRow_115 : decode xb_R_readRow 115 = .ok (.goto (-90), 3) := by decide +kernel
theorem xj_R_readRow_118 : decode xb_R_readRow 118 = .ok (.return_, 1) := by decide +kernel
theorem xj_B_costOf_0 : decode xb_B_costOf 0 = .ok (.iconst 0, 1) := by decide +kernel
theorem xj_B_costOf_1 : decode xb_B_costOf 1 = .ok (.istore_n 3, 1) := by decide +kernel
theorem xj_B_costOf_2 : decode xb_B_costOf 2 = .ok (.iconst 0, 1) := by decide +kernel
theorem xj_B_costOf_3 : decode xb_B_costOf 3 = .ok (.istore 4, 2) := by decide +kernel
theorem xj_B_costOf_5 : decode xb_B_costOf 5 = .ok (.iload 4, 2) := by decide +kernel
theorem xj_B_costOf_7 : decode xb_B_costOf 7 = .ok (.aload_n 0, 1) := by decide +kernel
theorem xj_B_costOf_8 : decode xb_B_costOf 8 = .ok (.getfield 18, 3) := by decide +kernel
theorem xj_B_costOf_11 : decode xb_B_costOf 11 = .ok (.if_icmp .ge 37, 3) := by decide +kernel
theorem xj_B_costOf_14 : decode xb_B_costOf 14 = .ok (.iload_n 3, 1) := by decide +kernel
theorem xj_B_costOf_15 : decode xb_B_costOf 15 = .ok (.aload_n 0, 1) := by decide +kernel
theorem xj_B_costOf_16 : decode xb_B_costOf 16 = .ok (.getfield 9, 3) := by decide +kernel
theorem xj_B_costOf_19 : decode xb_B_costOf 19 = .ok (.iload_n 1, 1) := by decide +kernel
theorem xj_B_costOf_20 : decode xb_B_costOf 20 = .ok (.bipush 6, 2) := by decide +kernel
theorem xj_B_costOf_22 : decode xb_B_costOf 22 = .ok (.imul, 1) := by decide +kernel
theorem xj_B_costOf_23 : decode xb_B_costOf 23 = .ok (.iload 4, 2) := by decide +kernel
theorem xj_B_costOf_25 : decode xb_B_costOf 25 = .ok (.iadd, 1) := by decide +kernel
theorem xj_B_costOf_26 : decode xb_B_costOf 26 = .ok (.iaload, 1) := by decide +kernel
theorem xj_B_costOf_27 : decode xb_B_costOf 27 = .ok (.aload_n 0, 1) := by decide +kernel
theorem xj_B_costOf_28 : decode xb_B_costOf 28 = .ok (.getfield 15, 3) := by decide +kernel
theorem xj_B_costOf_31 : decode xb_B_costOf 31 = .ok (.iload_n 2, 1) := by decide +kernel
theorem xj_B_costOf_32 : decode xb_B_costOf 32 = .ok (.bipush 6, 2) := by decide +kernel
theorem xj_B_costOf_34 : decode xb_B_costOf 34 = .ok (.imul, 1) := by decide +kernel
theorem xj_B_costOf_35 : decode xb_B_costOf 35 = .ok (.iload 4, 2) := by decide +kernel
theorem xj_B_costOf_37 : decode xb_B_costOf 37 = .ok (.iadd, 1) := by decide +kernel
theorem xj_B_costOf_38 : decode xb_B_costOf 38 = .ok (.iaload, 1) := by decide +kernel
theorem xj_B_costOf_39 : decode xb_B_costOf 39 = .ok (.imul, 1) := by decide +kernel
theorem xj_B_costOf_40 : decode xb_B_costOf 40 = .ok (.iadd, 1) := by decide +kernel
theorem xj_B_costOf_41 : decode xb_B_costOf 41 = .ok (.istore_n 3, 1) := by decide +kernel
theorem xj_B_costOf_42 : decode xb_B_costOf 42 = .ok (.iinc 4 1, 3) := by decide +kernel
theorem xj_B_costOf_45 : decode xb_B_costOf 45 = .ok (.goto (-40), 3) := by decide +kernel
theorem xj_B_costOf_48 : decode xb_B_costOf 48 = .ok (.iload_n 3, 1) := by decide +kernel
theorem xj_B_costOf_49 : decode xb_B_costOf 49 = .ok (.ireturn, 1) := by decide +kernel
theorem xj_R_isSensibleWithin_0 : decode xb_R_isSensibleWithin 0 = .ok (.aload_n 0, 1) := by decide +kernel
theorem xj_R_isSensibleWithin_1 : decode xb_R_isSensibleWithin 1 = .ok (.iload_n 1, 1) := by decide +kernel
theorem xj_R_isSensibleWithin_2 : decode xb_R_isSensibleWithin 2 = .ok (.invokevirtual 39, 3) := by decide +kernel
theorem xj_R_isSensibleWithin_5 : decode xb_R_isSensibleWithin 5 = .ok (.iconst 0, 1) := by decide +kernel
theorem xj_R_isSensibleWithin_6 : decode xb_R_isSensibleWithin 6 = .ok (.istore_n 2, 1) := by decide +kernel
theorem xj_R_isSensibleWithin_7 : decode xb_R_isSensibleWithin 7 = .ok (.iload_n 2, 1) := by decide +kernel
theorem xj_R_isSensibleWithin_8 : decode xb_R_isSensibleWithin 8 = .ok (.bipush 13, 2) := by decide +kernel
theorem xj_R_isSensibleWithin_10 : decode xb_R_isSensibleWithin 10 = .ok (.if_icmp .ge 51, 3) := by decide +kernel
theorem xj_R_isSensibleWithin_13 : decode xb_R_isSensibleWithin 13 = .ok (.iconst 0, 1) := by decide +kernel
theorem xj_R_isSensibleWithin_14 : decode xb_R_isSensibleWithin 14 = .ok (.istore_n 3, 1) := by decide +kernel
theorem xj_R_isSensibleWithin_15 : decode xb_R_isSensibleWithin 15 = .ok (.iload_n 3, 1) := by decide +kernel
theorem xj_R_isSensibleWithin_16 : decode xb_R_isSensibleWithin 16 = .ok (.bipush 13, 2) := by decide +kernel
theorem xj_R_isSensibleWithin_18 : decode xb_R_isSensibleWithin 18 = .ok (.if_icmp .ge 37, 3) := by decide +kernel
theorem xj_R_isSensibleWithin_21 : decode xb_R_isSensibleWithin 21 = .ok (.aload_n 0, 1) := by decide +kernel
theorem xj_R_isSensibleWithin_22 : decode xb_R_isSensibleWithin 22 = .ok (.getfield 18, 3) := by decide +kernel
theorem xj_R_isSensibleWithin_25 : decode xb_R_isSensibleWithin 25 = .ok (.iload_n 2, 1) := by decide +kernel
theorem xj_R_isSensibleWithin_26 : decode xb_R_isSensibleWithin 26 = .ok (.iaload, 1) := by decide +kernel
theorem xj_R_isSensibleWithin_27 : decode xb_R_isSensibleWithin 27 = .ok (.iload_n 3, 1) := by decide +kernel
theorem xj_R_isSensibleWithin_28 : decode xb_R_isSensibleWithin 28 = .ok (.invokestatic 21, 3) := by decide +kernel
theorem xj_R_isSensibleWithin_31 : decode xb_R_isSensibleWithin 31 = .ok (.ifCond .eq 18, 3) := by decide +kernel
theorem xj_R_isSensibleWithin_34 : decode xb_R_isSensibleWithin 34 = .ok (.aload_n 0, 1) := by decide +kernel
theorem xj_R_isSensibleWithin_35 : decode xb_R_isSensibleWithin 35 = .ok (.getfield 15, 3) := by decide +kernel
theorem xj_R_isSensibleWithin_38 : decode xb_R_isSensibleWithin 38 = .ok (.iload_n 3, 1) := by decide +kernel
theorem xj_R_isSensibleWithin_39 : decode xb_R_isSensibleWithin 39 = .ok (.iaload, 1) := by decide +kernel
theorem xj_R_isSensibleWithin_40 : decode xb_R_isSensibleWithin 40 = .ok (.iload_n 2, 1) := by decide +kernel
theorem xj_R_isSensibleWithin_41 : decode xb_R_isSensibleWithin 41 = .ok (.invokestatic 21, 3) := by decide +kernel
theorem xj_R_isSensibleWithin_44 : decode xb_R_isSensibleWithin 44 = .ok (.ifCond .eq 5, 3) := by decide +kernel
theorem xj_R_isSensibleWithin_47 : decode xb_R_isSensibleWithin 47 = .ok (.iconst 0, 1) := by decide +kernel
theorem xj_R_isSensibleWithin_48 : decode xb_R_isSensibleWithin 48 = .ok (.ireturn, 1) := by decide +kernel
theorem xj_R_isSensibleWithin_49 : decode xb_R_isSensibleWithin 49 = .ok (.iinc 3 1, 3) := by decide +kernel
theorem xj_R_isSensibleWithin_52 : decode xb_R_isSensibleWithin 52 = .ok (.goto (-37), 3) := by decide +kernel
theorem xj_R_isSensibleWithin_55 : decode xb_R_isSensibleWithin 55 = .ok (.iinc 2 1, 3) := by decide +kernel
theorem xj_R_isSensibleWithin_58 : decode xb_R_isSensibleWithin 58 = .ok (.goto (-51), 3) := by decide +kernel
theorem xj_R_isSensibleWithin_61 : decode xb_R_isSensibleWithin 61 = .ok (.iconst 1, 1) := by decide +kernel
theorem xj_R_isSensibleWithin_62 : decode xb_R_isSensibleWithin 62 = .ok (.ireturn, 1) := by decide +kernel
theorem xj_R_linkWithin_0 : decode xb_R_linkWithin 0 = .ok (.iconst 0, 1) := by decide +kernel
theorem xj_R_linkWithin_1 : decode xb_R_linkWithin 1 = .ok (.istore_n 2, 1) := by decide +kernel
theorem xj_R_linkWithin_2 : decode xb_R_linkWithin 2 = .ok (.iload_n 2, 1) := by decide +kernel
theorem xj_R_linkWithin_3 : decode xb_R_linkWithin 3 = .ok (.bipush 13, 2) := by decide +kernel
theorem xj_R_linkWithin_5 : decode xb_R_linkWithin 5 = .ok (.if_icmp .ge 35, 3) := by decide +kernel
theorem xj_R_linkWithin_8 : decode xb_R_linkWithin 8 = .ok (.aload_n 0, 1) := by decide +kernel
theorem xj_R_linkWithin_9 : decode xb_R_linkWithin 9 = .ok (.getfield 18, 3) := by decide +kernel
theorem xj_R_linkWithin_12 : decode xb_R_linkWithin 12 = .ok (.iload_n 2, 1) := by decide +kernel
theorem xj_R_linkWithin_13 : decode xb_R_linkWithin 13 = .ok (.iload_n 1, 1) := by decide +kernel
theorem xj_R_linkWithin_14 : decode xb_R_linkWithin 14 = .ok (.iload_n 2, 1) := by decide +kernel
theorem xj_R_linkWithin_15 : decode xb_R_linkWithin 15 = .ok (.invokestatic 21, 3) := by decide +kernel
theorem xj_R_linkWithin_18 : decode xb_R_linkWithin 18 = .ok (.ifCond .eq 14, 3) := by decide +kernel
theorem xj_R_linkWithin_21 : decode xb_R_linkWithin 21 = .ok (.aload_n 0, 1) := by decide +kernel
theorem xj_R_linkWithin_22 : decode xb_R_linkWithin 22 = .ok (.getfield 9, 3) := by decide +kernel
theorem xj_R_linkWithin_25 : decode xb_R_linkWithin 25 = .ok (.iload_n 2, 1) := by decide +kernel
theorem xj_R_linkWithin_26 : decode xb_R_linkWithin 26 = .ok (.iaload, 1) := by decide +kernel
theorem xj_R_linkWithin_27 : decode xb_R_linkWithin 27 = .ok (.iload_n 1, 1) := by decide +kernel
theorem xj_R_linkWithin_28 : decode xb_R_linkWithin 28 = .ok (.iand, 1) := by decide +kernel
theorem xj_R_linkWithin_29 : decode xb_R_linkWithin 29 = .ok (.goto 4, 3) := by decide +kernel
theorem xj_R_linkWithin_32 : decode xb_R_linkWithin 32 = .ok (.iconst 0, 1) := by decide +kernel
theorem xj_R_linkWithin_33 : decode xb_R_linkWithin 33 = .ok (.iastore, 1) := by decide +kernel
theorem xj_R_linkWithin_34 : decode xb_R_linkWithin 34 = .ok (.iinc 2 1, 3) := by decide +kernel
theorem xj_R_linkWithin_37 : decode xb_R_linkWithin 37 = .ok (.goto (-35), 3) := by decide +kernel
theorem xj_R_linkWithin_40 : decode xb_R_linkWithin 40 = .ok (.iconst 0, 1) := by decide +kernel
theorem xj_R_linkWithin_41 : decode xb_R_linkWithin 41 = .ok (.istore_n 2, 1) := by decide +kernel
theorem xj_R_linkWithin_42 : decode xb_R_linkWithin 42 = .ok (.iload_n 2, 1) := by decide +kernel
theorem xj_R_linkWithin_43 : decode xb_R_linkWithin 43 = .ok (.bipush 13, 2) := by decide +kernel
theorem xj_R_linkWithin_45 : decode xb_R_linkWithin 45 = .ok (.if_icmp .ge 51, 3) := by decide +kernel
theorem xj_R_linkWithin_48 : decode xb_R_linkWithin 48 = .ok (.iconst 0, 1) := by decide +kernel
theorem xj_R_linkWithin_49 : decode xb_R_linkWithin 49 = .ok (.istore_n 3, 1) := by decide +kernel
theorem xj_R_linkWithin_50 : decode xb_R_linkWithin 50 = .ok (.iload_n 3, 1) := by decide +kernel
theorem xj_R_linkWithin_51 : decode xb_R_linkWithin 51 = .ok (.bipush 13, 2) := by decide +kernel
theorem xj_R_linkWithin_53 : decode xb_R_linkWithin 53 = .ok (.if_icmp .ge 37, 3) := by decide +kernel
theorem xj_R_linkWithin_56 : decode xb_R_linkWithin 56 = .ok (.aload_n 0, 1) := by decide +kernel
theorem xj_R_linkWithin_57 : decode xb_R_linkWithin 57 = .ok (.getfield 18, 3) := by decide +kernel
theorem xj_R_linkWithin_60 : decode xb_R_linkWithin 60 = .ok (.iload_n 3, 1) := by decide +kernel
theorem xj_R_linkWithin_61 : decode xb_R_linkWithin 61 = .ok (.iaload, 1) := by decide +kernel
theorem xj_R_linkWithin_62 : decode xb_R_linkWithin 62 = .ok (.iload_n 2, 1) := by decide +kernel
theorem xj_R_linkWithin_63 : decode xb_R_linkWithin 63 = .ok (.invokestatic 21, 3) := by decide +kernel
theorem xj_R_linkWithin_66 : decode xb_R_linkWithin 66 = .ok (.ifCond .eq 18, 3) := by decide +kernel
theorem xj_R_linkWithin_69 : decode xb_R_linkWithin 69 = .ok (.aload_n 0, 1) := by decide +kernel
theorem xj_R_linkWithin_70 : decode xb_R_linkWithin 70 = .ok (.getfield 18, 3) := by decide +kernel
theorem xj_R_linkWithin_73 : decode xb_R_linkWithin 73 = .ok (.iload_n 3, 1) := by decide +kernel
theorem xj_R_linkWithin_74 : decode xb_R_linkWithin 74 = .ok (.dup2, 1) := by decide +kernel
theorem xj_R_linkWithin_75 : decode xb_R_linkWithin 75 = .ok (.iaload, 1) := by decide +kernel
theorem xj_R_linkWithin_76 : decode xb_R_linkWithin 76 = .ok (.aload_n 0, 1) := by decide +kernel
theorem xj_R_linkWithin_77 : decode xb_R_linkWithin 77 = .ok (.getfield 18, 3) := by decide +kernel
theorem xj_R_linkWithin_80 : decode xb_R_linkWithin 80 = .ok (.iload_n 2, 1) := by decide +kernel
theorem xj_R_linkWithin_81 : decode xb_R_linkWithin 81 = .ok (.iaload, 1) := by decide +kernel
theorem xj_R_linkWithin_82 : decode xb_R_linkWithin 82 = .ok (.ior, 1) := by decide +kernel
theorem xj_R_linkWithin_83 : decode xb_R_linkWithin 83 = .ok (.iastore, 1) := by decide +kernel
theorem xj_R_linkWithin_84 : decode xb_R_linkWithin 84 = .ok (.iinc 3 1, 3) := by decide +kernel
theorem xj_R_linkWithin_87 : decode xb_R_linkWithin 87 = .ok (.goto (-37), 3) := by decide +kernel
theorem xj_R_linkWithin_90 : decode xb_R_linkWithin 90 = .ok (.iinc 2 1, 3) := by decide +kernel
theorem xj_R_linkWithin_93 : decode xb_R_linkWithin 93 = .ok (.goto (-51), 3) := by decide +kernel
theorem xj_R_linkWithin_96 : decode xb_R_linkWithin 96 = .ok (.return_, 1) := by decide +kernel
theorem xj_L_size_0 : decode xb_L_size 0 = .ok (.aload_n 0, 1) := by decide +kernel
theorem xj_L_size_1 : decode xb_L_size 1 = .ok (.getfield 12, 3) := by decide +kernel
theorem xj_L_size_4 : decode xb_L_size 4 = .ok (.getfield 55, 3) := by decide +kernel
theorem xj_L_size_7 : decode xb_L_size 7 = .ok (.ireturn, 1) := by decide +kernel
theorem xj_A_goods_0 : decode xb_A_goods 0 = .ok (.aload_n 0, 1) := by decide +kernel
theorem xj_A_goods_1 : decode xb_A_goods 1 = .ok (.iload_n 1, 1) := by decide +kernel
theorem xj_A_goods_2 : decode xb_A_goods 2 = .ok (.invokevirtual 7, 3) := by decide +kernel
theorem xj_A_goods_5 : decode xb_A_goods 5 = .ok (.goto 6, 3) := by decide +kernel
theorem xj_A_goods_8 : decode xb_A_goods 8 = .ok (.astore_n 2, 1) := by decide +kernel
theorem xj_A_goods_9 : decode xb_A_goods 9 = .ok (.iconst 1, 1) := by decide +kernel
theorem xj_A_goods_10 : decode xb_A_goods 10 = .ok (.ireturn, 1) := by decide +kernel
theorem xj_A_goods_11 : decode xb_A_goods 11 = .ok (.iconst 0, 1) := by decide +kernel
theorem xj_A_goods_12 : decode xb_A_goods 12 = .ok (.ireturn, 1) := by decide +kernel
theorem xj_L_goods_0 : decode xb_L_goods 0 = .ok (.iload_n 1, 1) := by decide +kernel
theorem xj_L_goods_1 : decode xb_L_goods 1 = .ok (.iconst 1, 1) := by decide +kernel
theorem xj_L_goods_2 : decode xb_L_goods 2 = .ok (.if_icmp .lt 9, 3) := by decide +kernel
theorem xj_L_goods_5 : decode xb_L_goods 5 = .ok (.iload_n 1, 1) := by decide +kernel
theorem xj_L_goods_6 : decode xb_L_goods 6 = .ok (.bipush 6, 2) := by decide +kernel
theorem xj_L_goods_8 : decode xb_L_goods 8 = .ok (.if_icmp .le 13, 3) := by decide +kernel
theorem xj_L_goods_11 : decode xb_L_goods 11 = .ok (.new 48, 3) := by decide +kernel
theorem xj_L_goods_14 : decode xb_L_goods 14 = .ok (.dup, 1) := by decide +kernel
theorem xj_L_goods_15 : decode xb_L_goods 15 = .ok (.ldc 50, 2) := by decide +kernel
theorem xj_L_goods_17 : decode xb_L_goods 17 = .ok (.invokespecial 52, 3) := by decide +kernel
theorem xj_L_goods_20 : decode xb_L_goods 20 = .ok (.athrow, 1) := by decide +kernel
theorem xj_L_goods_21 : decode xb_L_goods 21 = .ok (.aload_n 0, 1) := by decide +kernel
theorem xj_L_goods_22 : decode xb_L_goods 22 = .ok (.getfield 12, 3) := by decide +kernel
theorem xj_L_goods_25 : decode xb_L_goods 25 = .ok (.iload_n 1, 1) := by decide +kernel
theorem xj_L_goods_26 : decode xb_L_goods 26 = .ok (.invokevirtual 44, 3) := by decide +kernel
theorem xj_L_goods_29 : decode xb_L_goods 29 = .ok (.return_, 1) := by decide +kernel
theorem xj_A_day_0 : decode xb_A_day 0 = .ok (.aload_n 1, 1) := by decide +kernel
theorem xj_A_day_1 : decode xb_A_day 1 = .ok (.iconst 0, 1) := by decide +kernel
theorem xj_A_day_2 : decode xb_A_day 2 = .ok (.aload_n 0, 1) := by decide +kernel
theorem xj_A_day_3 : decode xb_A_day 3 = .ok (.invokevirtual 15, 3) := by decide +kernel
theorem xj_A_day_6 : decode xb_A_day 6 = .ok (.i2l, 1) := by decide +kernel
theorem xj_A_day_7 : decode xb_A_day 7 = .ok (.lastore, 1) := by decide +kernel
theorem xj_A_day_8 : decode xb_A_day 8 = .ok (.goto 6, 3) := by decide +kernel
theorem xj_A_day_11 : decode xb_A_day 11 = .ok (.astore_n 2, 1) := by decide +kernel
theorem xj_A_day_12 : decode xb_A_day 12 = .ok (.iconst 1, 1) := by decide +kernel
theorem xj_A_day_13 : decode xb_A_day 13 = .ok (.ireturn, 1) := by decide +kernel
theorem xj_A_day_14 : decode xb_A_day 14 = .ok (.iconst 0, 1) := by decide +kernel
theorem xj_A_day_15 : decode xb_A_day 15 = .ok (.ireturn, 1) := by decide +kernel
theorem xj_L_day_0 : decode xb_L_day 0 = .ok (.aload_n 0, 1) := by decide +kernel
theorem xj_L_day_1 : decode xb_L_day 1 = .ok (.getfield 12, 3) := by decide +kernel
theorem xj_L_day_4 : decode xb_L_day 4 = .ok (.getfield 55, 3) := by decide +kernel
theorem xj_L_day_7 : decode xb_L_day 7 = .ok (.bipush 12, 2) := by decide +kernel
theorem xj_L_day_9 : decode xb_L_day 9 = .ok (.if_icmp .lt 13, 3) := by decide +kernel
theorem xj_L_day_12 : decode xb_L_day 12 = .ok (.new 59, 3) := by decide +kernel
theorem xj_L_day_15 : decode xb_L_day 15 = .ok (.dup, 1) := by decide +kernel
theorem xj_L_day_16 : decode xb_L_day 16 = .ok (.ldc 61, 2) := by decide +kernel
theorem xj_L_day_18 : decode xb_L_day 18 = .ok (.invokespecial 63, 3) := by decide +kernel
theorem xj_L_day_21 : decode xb_L_day 21 = .ok (.athrow, 1) := by decide +kernel
theorem xj_L_day_22 : decode xb_L_day 22 = .ok (.aload_n 0, 1) := by decide +kernel
theorem xj_L_day_23 : decode xb_L_day 23 = .ok (.getfield 12, 3) := by decide +kernel
theorem xj_L_day_26 : decode xb_L_day 26 = .ok (.invokevirtual 64, 3) := by decide +kernel
theorem xj_L_day_29 : decode xb_L_day 29 = .ok (.ireturn, 1) := by decide +kernel
theorem xj_B_addDay_0 : decode xb_B_addDay 0 = .ok (.aload_n 0, 1) := by decide +kernel
theorem xj_B_addDay_1 : decode xb_B_addDay 1 = .ok (.getfield 22, 3) := by decide +kernel
theorem xj_B_addDay_4 : decode xb_B_addDay 4 = .ok (.istore_n 1, 1) := by decide +kernel
theorem xj_B_addDay_5 : decode xb_B_addDay 5 = .ok (.aload_n 0, 1) := by decide +kernel
theorem xj_B_addDay_6 : decode xb_B_addDay 6 = .ok (.iload_n 1, 1) := by decide +kernel
theorem xj_B_addDay_7 : decode xb_B_addDay 7 = .ok (.invokevirtual 25, 3) := by decide +kernel
theorem xj_B_addDay_10 : decode xb_B_addDay 10 = .ok (.aload_n 0, 1) := by decide +kernel
theorem xj_B_addDay_11 : decode xb_B_addDay 11 = .ok (.dup, 1) := by decide +kernel
theorem xj_B_addDay_12 : decode xb_B_addDay 12 = .ok (.getfield 22, 3) := by decide +kernel
theorem xj_B_addDay_15 : decode xb_B_addDay 15 = .ok (.iconst 1, 1) := by decide +kernel
theorem xj_B_addDay_16 : decode xb_B_addDay 16 = .ok (.iadd, 1) := by decide +kernel
theorem xj_B_addDay_17 : decode xb_B_addDay 17 = .ok (.putfield 22, 3) := by decide +kernel
theorem xj_B_addDay_20 : decode xb_B_addDay 20 = .ok (.iload_n 1, 1) := by decide +kernel
theorem xj_B_addDay_21 : decode xb_B_addDay 21 = .ok (.ireturn, 1) := by decide +kernel
theorem xj_A_price_0 : decode xb_A_price 0 = .ok (.aload 4, 2) := by decide +kernel
theorem xj_A_price_2 : decode xb_A_price 2 = .ok (.iconst 0, 1) := by decide +kernel
theorem xj_A_price_3 : decode xb_A_price 3 = .ok (.aload_n 0, 1) := by decide +kernel
theorem xj_A_price_4 : decode xb_A_price 4 = .ok (.iload_n 1, 1) := by decide +kernel
theorem xj_A_price_5 : decode xb_A_price 5 = .ok (.iload_n 2, 1) := by decide +kernel
theorem xj_A_price_6 : decode xb_A_price 6 = .ok (.iload_n 3, 1) := by decide +kernel
theorem xj_A_price_7 : decode xb_A_price 7 = .ok (.invokevirtual 21, 3) := by decide +kernel
theorem xj_A_price_10 : decode xb_A_price 10 = .ok (.i2l, 1) := by decide +kernel
theorem xj_A_price_11 : decode xb_A_price 11 = .ok (.lastore, 1) := by decide +kernel
theorem xj_A_price_12 : decode xb_A_price 12 = .ok (.goto 11, 3) := by decide +kernel
theorem xj_A_price_15 : decode xb_A_price 15 = .ok (.astore 5, 2) := by decide +kernel
theorem xj_A_price_17 : decode xb_A_price 17 = .ok (.iconst 1, 1) := by decide +kernel
theorem xj_A_price_18 : decode xb_A_price 18 = .ok (.ireturn, 1) := by decide +kernel
theorem xj_A_price_19 : decode xb_A_price 19 = .ok (.astore 5, 2) := by decide +kernel
theorem xj_A_price_21 : decode xb_A_price 21 = .ok (.iconst 2, 1) := by decide +kernel
theorem xj_A_price_22 : decode xb_A_price 22 = .ok (.ireturn, 1) := by decide +kernel
theorem xj_A_price_23 : decode xb_A_price 23 = .ok (.iconst 0, 1) := by decide +kernel
theorem xj_A_price_24 : decode xb_A_price 24 = .ok (.ireturn, 1) := by decide +kernel
theorem xj_L_price_0 : decode xb_L_price 0 = .ok (.aload_n 0, 1) := by decide +kernel
theorem xj_L_price_1 : decode xb_L_price 1 = .ok (.iload_n 1, 1) := by decide +kernel
theorem xj_L_price_2 : decode xb_L_price 2 = .ok (.invokevirtual 68, 3) := by decide +kernel
theorem xj_L_price_5 : decode xb_L_price 5 = .ok (.aload_n 0, 1) := by decide +kernel
theorem xj_L_price_6 : decode xb_L_price 6 = .ok (.iload_n 2, 1) := by decide +kernel
theorem xj_L_price_7 : decode xb_L_price 7 = .ok (.invokevirtual 71, 3) := by decide +kernel
theorem xj_L_price_10 : decode xb_L_price 10 = .ok (.iload_n 3, 1) := by decide +kernel
theorem xj_L_price_11 : decode xb_L_price 11 = .ok (.invokestatic 74, 3) := by decide +kernel
theorem xj_L_price_14 : decode xb_L_price 14 = .ok (.aload_n 0, 1) := by decide +kernel
theorem xj_L_price_15 : decode xb_L_price 15 = .ok (.getfield 12, 3) := by decide +kernel
theorem xj_L_price_18 : decode xb_L_price 18 = .ok (.iload_n 1, 1) := by decide +kernel
theorem xj_L_price_19 : decode xb_L_price 19 = .ok (.iload_n 2, 1) := by decide +kernel
theorem xj_L_price_20 : decode xb_L_price 20 = .ok (.iload_n 3, 1) := by decide +kernel
theorem xj_L_price_21 : decode xb_L_price 21 = .ok (.invokevirtual 77, 3) := by decide +kernel
theorem xj_L_price_24 : decode xb_L_price 24 = .ok (.ireturn, 1) := by decide +kernel
theorem xj_L_requireDay_0 : decode xb_L_requireDay 0 = .ok (.iload_n 1, 1) := by decide +kernel
theorem xj_L_requireDay_1 : decode xb_L_requireDay 1 = .ok (.ifCond .lt 14, 3) := by decide +kernel
theorem xj_L_requireDay_4 : decode xb_L_requireDay 4 = .ok (.iload_n 1, 1) := by decide +kernel
theorem xj_L_requireDay_5 : decode xb_L_requireDay 5 = .ok (.aload_n 0, 1) := by decide +kernel
theorem xj_L_requireDay_6 : decode xb_L_requireDay 6 = .ok (.getfield 12, 3) := by decide +kernel
theorem xj_L_requireDay_9 : decode xb_L_requireDay 9 = .ok (.getfield 55, 3) := by decide +kernel
theorem xj_L_requireDay_12 : decode xb_L_requireDay 12 = .ok (.if_icmp .lt 13, 3) := by decide +kernel
theorem xj_L_requireDay_15 : decode xb_L_requireDay 15 = .ok (.new 120, 3) := by decide +kernel
theorem xj_L_requireDay_18 : decode xb_L_requireDay 18 = .ok (.dup, 1) := by decide +kernel
theorem xj_L_requireDay_19 : decode xb_L_requireDay 19 = .ok (.ldc 170, 2) := by decide +kernel
theorem xj_L_requireDay_21 : decode xb_L_requireDay 21 = .ok (.invokespecial 124, 3) := by decide +kernel
theorem xj_L_requireDay_24 : decode xb_L_requireDay 24 = .ok (.athrow, 1) := by decide +kernel
theorem xj_L_requireDay_25 : decode xb_L_requireDay 25 = .ok (.return_, 1) := by decide +kernel
theorem xj_L_requireGood_0 : decode xb_L_requireGood 0 = .ok (.iload_n 1, 1) := by decide +kernel
theorem xj_L_requireGood_1 : decode xb_L_requireGood 1 = .ok (.ifCond .lt 14, 3) := by decide +kernel
theorem xj_L_requireGood_4 : decode xb_L_requireGood 4 = .ok (.iload_n 1, 1) := by decide +kernel
theorem xj_L_requireGood_5 : decode xb_L_requireGood 5 = .ok (.aload_n 0, 1) := by decide +kernel
theorem xj_L_requireGood_6 : decode xb_L_requireGood 6 = .ok (.getfield 12, 3) := by decide +kernel
theorem xj_L_requireGood_9 : decode xb_L_requireGood 9 = .ok (.getfield 172, 3) := by decide +kernel
theorem xj_L_requireGood_12 : decode xb_L_requireGood 12 = .ok (.if_icmp .lt 13, 3) := by decide +kernel
theorem xj_L_requireGood_15 : decode xb_L_requireGood 15 = .ok (.new 120, 3) := by decide +kernel
theorem xj_L_requireGood_18 : decode xb_L_requireGood 18 = .ok (.dup, 1) := by decide +kernel
theorem xj_L_requireGood_19 : decode xb_L_requireGood 19 = .ok (.ldc 175, 2) := by decide +kernel
theorem xj_L_requireGood_21 : decode xb_L_requireGood 21 = .ok (.invokespecial 124, 3) := by decide +kernel
theorem xj_L_requireGood_24 : decode xb_L_requireGood 24 = .ok (.athrow, 1) := by decide +kernel
theorem xj_L_requireGood_25 : decode xb_L_requireGood 25 = .ok (.return_, 1) := by decide +kernel
theorem xj_L_requirePrice_0 : decode xb_L_requirePrice 0 = .ok (.iload_n 0, 1) := by decide +kernel
theorem xj_L_requirePrice_1 : decode xb_L_requirePrice 1 = .ok (.iconst 1, 1) := by decide +kernel
theorem xj_L_requirePrice_2 : decode xb_L_requirePrice 2 = .ok (.if_icmp .lt 9, 3) := by decide +kernel
theorem xj_L_requirePrice_5 : decode xb_L_requirePrice 5 = .ok (.iload_n 0, 1) := by decide +kernel
theorem xj_L_requirePrice_6 : decode xb_L_requirePrice 6 = .ok (.bipush 99, 2) := by decide +kernel
theorem xj_L_requirePrice_8 : decode xb_L_requirePrice 8 = .ok (.if_icmp .le 13, 3) := by decide +kernel
theorem xj_L_requirePrice_11 : decode xb_L_requirePrice 11 = .ok (.new 48, 3) := by decide +kernel
theorem xj_L_requirePrice_14 : decode xb_L_requirePrice 14 = .ok (.dup, 1) := by decide +kernel
theorem xj_L_requirePrice_15 : decode xb_L_requirePrice 15 = .ok (.ldc 177, 2) := by decide +kernel
theorem xj_L_requirePrice_17 : decode xb_L_requirePrice 17 = .ok (.invokespecial 52, 3) := by decide +kernel
theorem xj_L_requirePrice_20 : decode xb_L_requirePrice 20 = .ok (.athrow, 1) := by decide +kernel
theorem xj_L_requirePrice_21 : decode xb_L_requirePrice 21 = .ok (.return_, 1) := by decide +kernel
theorem xj_B_setPrice_0 : decode xb_B_setPrice 0 = .ok (.aload_n 0, 1) := by decide +kernel
theorem xj_B_setPrice_1 : decode xb_B_setPrice 1 = .ok (.getfield 9, 3) := by decide +kernel
theorem xj_B_setPrice_4 : decode xb_B_setPrice 4 = .ok (.iload_n 1, 1) := by decide +kernel
theorem xj_B_setPrice_5 : decode xb_B_setPrice 5 = .ok (.bipush 6, 2) := by decide +kernel
theorem xj_B_setPrice_7 : decode xb_B_setPrice 7 = .ok (.imul, 1) := by decide +kernel
theorem xj_B_setPrice_8 : decode xb_B_setPrice 8 = .ok (.iload_n 2, 1) := by decide +kernel
theorem xj_B_setPrice_9 : decode xb_B_setPrice 9 = .ok (.iadd, 1) := by decide +kernel
theorem xj_B_setPrice_10 : decode xb_B_setPrice 10 = .ok (.iaload, 1) := by decide +kernel
theorem xj_B_setPrice_11 : decode xb_B_setPrice 11 = .ok (.istore 4, 2) := by decide +kernel
theorem xj_B_setPrice_13 : decode xb_B_setPrice 13 = .ok (.aload_n 0, 1) := by decide +kernel
theorem xj_B_setPrice_14 : decode xb_B_setPrice 14 = .ok (.getfield 9, 3) := by decide +kernel
theorem xj_B_setPrice_17 : decode xb_B_setPrice 17 = .ok (.iload_n 1, 1) := by decide +kernel
theorem xj_B_setPrice_18 : decode xb_B_setPrice 18 = .ok (.bipush 6, 2) := by decide +kernel
theorem xj_B_setPrice_20 : decode xb_B_setPrice 20 = .ok (.imul, 1) := by decide +kernel
theorem xj_B_setPrice_21 : decode xb_B_setPrice 21 = .ok (.iload_n 2, 1) := by decide +kernel
theorem xj_B_setPrice_22 : decode xb_B_setPrice 22 = .ok (.iadd, 1) := by decide +kernel
theorem xj_B_setPrice_23 : decode xb_B_setPrice 23 = .ok (.iload_n 3, 1) := by decide +kernel
theorem xj_B_setPrice_24 : decode xb_B_setPrice 24 = .ok (.iastore, 1) := by decide +kernel
theorem xj_B_setPrice_25 : decode xb_B_setPrice 25 = .ok (.iload 4, 2) := by decide +kernel
theorem xj_B_setPrice_27 : decode xb_B_setPrice 27 = .ok (.ireturn, 1) := by decide +kernel
theorem xj_A_amount_0 : decode xb_A_amount 0 = .ok (.aload 4, 2) := by decide +kernel
theorem xj_A_amount_2 : decode xb_A_amount 2 = .ok (.iconst 0, 1) := by decide +kernel
theorem xj_A_amount_3 : decode xb_A_amount 3 = .ok (.aload_n 0, 1) := by decide +kernel
theorem xj_A_amount_4 : decode xb_A_amount 4 = .ok (.iload_n 1, 1) := by decide +kernel
theorem xj_A_amount_5 : decode xb_A_amount 5 = .ok (.iload_n 2, 1) := by decide +kernel
theorem xj_A_amount_6 : decode xb_A_amount 6 = .ok (.iload_n 3, 1) := by decide +kernel
theorem xj_A_amount_7 : decode xb_A_amount 7 = .ok (.invokevirtual 27, 3) := by decide +kernel
theorem xj_A_amount_10 : decode xb_A_amount 10 = .ok (.i2l, 1) := by decide +kernel
theorem xj_A_amount_11 : decode xb_A_amount 11 = .ok (.lastore, 1) := by decide +kernel
theorem xj_A_amount_12 : decode xb_A_amount 12 = .ok (.goto 11, 3) := by decide +kernel
theorem xj_A_amount_15 : decode xb_A_amount 15 = .ok (.astore 5, 2) := by decide +kernel
theorem xj_A_amount_17 : decode xb_A_amount 17 = .ok (.iconst 1, 1) := by decide +kernel
theorem xj_A_amount_18 : decode xb_A_amount 18 = .ok (.ireturn, 1) := by decide +kernel
theorem xj_A_amount_19 : decode xb_A_amount 19 = .ok (.astore 5, 2) := by decide +kernel
theorem xj_A_amount_21 : decode xb_A_amount 21 = .ok (.iconst 2, 1) := by decide +kernel
theorem xj_A_amount_22 : decode xb_A_amount 22 = .ok (.ireturn, 1) := by decide +kernel
theorem xj_A_amount_23 : decode xb_A_amount 23 = .ok (.iconst 0, 1) := by decide +kernel
theorem xj_A_amount_24 : decode xb_A_amount 24 = .ok (.ireturn, 1) := by decide +kernel
theorem xj_L_amount_0 : decode xb_L_amount 0 = .ok (.aload_n 0, 1) := by decide +kernel
theorem xj_L_amount_1 : decode xb_L_amount 1 = .ok (.iload_n 1, 1) := by decide +kernel
theorem xj_L_amount_2 : decode xb_L_amount 2 = .ok (.invokevirtual 68, 3) := by decide +kernel
theorem xj_L_amount_5 : decode xb_L_amount 5 = .ok (.aload_n 0, 1) := by decide +kernel
theorem xj_L_amount_6 : decode xb_L_amount 6 = .ok (.iload_n 2, 1) := by decide +kernel
theorem xj_L_amount_7 : decode xb_L_amount 7 = .ok (.invokevirtual 71, 3) := by decide +kernel
theorem xj_L_amount_10 : decode xb_L_amount 10 = .ok (.iload_n 3, 1) := by decide +kernel
theorem xj_L_amount_11 : decode xb_L_amount 11 = .ok (.invokestatic 81, 3) := by decide +kernel
theorem xj_L_amount_14 : decode xb_L_amount 14 = .ok (.aload_n 0, 1) := by decide +kernel
theorem xj_L_amount_15 : decode xb_L_amount 15 = .ok (.getfield 12, 3) := by decide +kernel
theorem xj_L_amount_18 : decode xb_L_amount 18 = .ok (.iload_n 1, 1) := by decide +kernel
theorem xj_L_amount_19 : decode xb_L_amount 19 = .ok (.iload_n 2, 1) := by decide +kernel
theorem xj_L_amount_20 : decode xb_L_amount 20 = .ok (.iload_n 3, 1) := by decide +kernel
theorem xj_L_amount_21 : decode xb_L_amount 21 = .ok (.invokevirtual 84, 3) := by decide +kernel
theorem xj_L_amount_24 : decode xb_L_amount 24 = .ok (.ireturn, 1) := by decide +kernel
theorem xj_L_requireAmount_0 : decode xb_L_requireAmount 0 = .ok (.iload_n 0, 1) := by decide +kernel
theorem xj_L_requireAmount_1 : decode xb_L_requireAmount 1 = .ok (.ifCond .lt 9, 3) := by decide +kernel
theorem xj_L_requireAmount_4 : decode xb_L_requireAmount 4 = .ok (.iload_n 0, 1) := by decide +kernel
theorem xj_L_requireAmount_5 : decode xb_L_requireAmount 5 = .ok (.bipush 99, 2) := by decide +kernel
theorem xj_L_requireAmount_7 : decode xb_L_requireAmount 7 = .ok (.if_icmp .le 13, 3) := by decide +kernel
theorem xj_L_requireAmount_10 : decode xb_L_requireAmount 10 = .ok (.new 48, 3) := by decide +kernel
theorem xj_L_requireAmount_13 : decode xb_L_requireAmount 13 = .ok (.dup, 1) := by decide +kernel
theorem xj_L_requireAmount_14 : decode xb_L_requireAmount 14 = .ok (.ldc 179, 2) := by decide +kernel
theorem xj_L_requireAmount_16 : decode xb_L_requireAmount 16 = .ok (.invokespecial 52, 3) := by decide +kernel
theorem xj_L_requireAmount_19 : decode xb_L_requireAmount 19 = .ok (.athrow, 1) := by decide +kernel
theorem xj_L_requireAmount_20 : decode xb_L_requireAmount 20 = .ok (.return_, 1) := by decide +kernel
theorem xj_B_setAmount_0 : decode xb_B_setAmount 0 = .ok (.aload_n 0, 1) := by decide +kernel
theorem xj_B_setAmount_1 : decode xb_B_setAmount 1 = .ok (.getfield 15, 3) := by decide +kernel
theorem xj_B_setAmount_4 : decode xb_B_setAmount 4 = .ok (.iload_n 1, 1) := by decide +kernel
theorem xj_B_setAmount_5 : decode xb_B_setAmount 5 = .ok (.bipush 6, 2) := by decide +kernel
theorem xj_B_setAmount_7 : decode xb_B_setAmount 7 = .ok (.imul, 1) := by decide +kernel
theorem xj_B_setAmount_8 : decode xb_B_setAmount 8 = .ok (.iload_n 2, 1) := by decide +kernel
theorem xj_B_setAmount_9 : decode xb_B_setAmount 9 = .ok (.iadd, 1) := by decide +kernel
theorem xj_B_setAmount_10 : decode xb_B_setAmount 10 = .ok (.iaload, 1) := by decide +kernel
theorem xj_B_setAmount_11 : decode xb_B_setAmount 11 = .ok (.istore 4, 2) := by decide +kernel
theorem xj_B_setAmount_13 : decode xb_B_setAmount 13 = .ok (.aload_n 0, 1) := by decide +kernel
theorem xj_B_setAmount_14 : decode xb_B_setAmount 14 = .ok (.getfield 15, 3) := by decide +kernel
theorem xj_B_setAmount_17 : decode xb_B_setAmount 17 = .ok (.iload_n 1, 1) := by decide +kernel
theorem xj_B_setAmount_18 : decode xb_B_setAmount 18 = .ok (.bipush 6, 2) := by decide +kernel
theorem xj_B_setAmount_20 : decode xb_B_setAmount 20 = .ok (.imul, 1) := by decide +kernel
theorem xj_B_setAmount_21 : decode xb_B_setAmount 21 = .ok (.iload_n 2, 1) := by decide +kernel
theorem xj_B_setAmount_22 : decode xb_B_setAmount 22 = .ok (.iadd, 1) := by decide +kernel
theorem xj_B_setAmount_23 : decode xb_B_setAmount 23 = .ok (.iload_n 3, 1) := by decide +kernel
theorem xj_B_setAmount_24 : decode xb_B_setAmount 24 = .ok (.iastore, 1) := by decide +kernel
theorem xj_B_setAmount_25 : decode xb_B_setAmount 25 = .ok (.iload 4, 2) := by decide +kernel
theorem xj_B_setAmount_27 : decode xb_B_setAmount 27 = .ok (.ireturn, 1) := by decide +kernel
theorem xj_A_remove_0 : decode xb_A_remove 0 = .ok (.aload_n 0, 1) := by decide +kernel
theorem xj_A_remove_1 : decode xb_A_remove 1 = .ok (.iload_n 1, 1) := by decide +kernel
theorem xj_A_remove_2 : decode xb_A_remove 2 = .ok (.invokevirtual 30, 3) := by decide +kernel
theorem xj_A_remove_5 : decode xb_A_remove 5 = .ok (.goto 6, 3) := by decide +kernel
theorem xj_A_remove_8 : decode xb_A_remove 8 = .ok (.astore_n 2, 1) := by decide +kernel
theorem xj_A_remove_9 : decode xb_A_remove 9 = .ok (.iconst 1, 1) := by decide +kernel
theorem xj_A_remove_10 : decode xb_A_remove 10 = .ok (.ireturn, 1) := by decide +kernel
theorem xj_A_remove_11 : decode xb_A_remove 11 = .ok (.iconst 0, 1) := by decide +kernel
theorem xj_A_remove_12 : decode xb_A_remove 12 = .ok (.ireturn, 1) := by decide +kernel
theorem xj_L_remove_0 : decode xb_L_remove 0 = .ok (.aload_n 0, 1) := by decide +kernel
theorem xj_L_remove_1 : decode xb_L_remove 1 = .ok (.iload_n 1, 1) := by decide +kernel
theorem xj_L_remove_2 : decode xb_L_remove 2 = .ok (.invokevirtual 68, 3) := by decide +kernel
theorem xj_L_remove_5 : decode xb_L_remove 5 = .ok (.aload_n 0, 1) := by decide +kernel
theorem xj_L_remove_6 : decode xb_L_remove 6 = .ok (.getfield 12, 3) := by decide +kernel
theorem xj_L_remove_9 : decode xb_L_remove 9 = .ok (.iload_n 1, 1) := by decide +kernel
theorem xj_L_remove_10 : decode xb_L_remove 10 = .ok (.invokevirtual 87, 3) := by decide +kernel
theorem xj_L_remove_13 : decode xb_L_remove 13 = .ok (.return_, 1) := by decide +kernel
theorem xj_B_takeAway_0 : decode xb_B_takeAway 0 = .ok (.aload_n 0, 1) := by decide +kernel
theorem xj_B_takeAway_1 : decode xb_B_takeAway 1 = .ok (.dup, 1) := by decide +kernel
theorem xj_B_takeAway_2 : decode xb_B_takeAway 2 = .ok (.getfield 22, 3) := by decide +kernel
theorem xj_B_takeAway_5 : decode xb_B_takeAway 5 = .ok (.iconst 1, 1) := by decide +kernel
theorem xj_B_takeAway_6 : decode xb_B_takeAway 6 = .ok (.isub, 1) := by decide +kernel
theorem xj_B_takeAway_7 : decode xb_B_takeAway 7 = .ok (.putfield 22, 3) := by decide +kernel
theorem xj_B_takeAway_10 : decode xb_B_takeAway 10 = .ok (.iload_n 1, 1) := by decide +kernel
theorem xj_B_takeAway_11 : decode xb_B_takeAway 11 = .ok (.bipush 6, 2) := by decide +kernel
theorem xj_B_takeAway_13 : decode xb_B_takeAway 13 = .ok (.imul, 1) := by decide +kernel
theorem xj_B_takeAway_14 : decode xb_B_takeAway 14 = .ok (.istore_n 2, 1) := by decide +kernel
theorem xj_B_takeAway_15 : decode xb_B_takeAway 15 = .ok (.iload_n 2, 1) := by decide +kernel
theorem xj_B_takeAway_16 : decode xb_B_takeAway 16 = .ok (.aload_n 0, 1) := by decide +kernel
theorem xj_B_takeAway_17 : decode xb_B_takeAway 17 = .ok (.getfield 22, 3) := by decide +kernel
theorem xj_B_takeAway_20 : decode xb_B_takeAway 20 = .ok (.bipush 6, 2) := by decide +kernel
theorem xj_B_takeAway_22 : decode xb_B_takeAway 22 = .ok (.imul, 1) := by decide +kernel
theorem xj_B_takeAway_23 : decode xb_B_takeAway 23 = .ok (.if_icmp .ge 39, 3) := by decide +kernel
theorem xj_B_takeAway_26 : decode xb_B_takeAway 26 = .ok (.aload_n 0, 1) := by decide +kernel
theorem xj_B_takeAway_27 : decode xb_B_takeAway 27 = .ok (.getfield 9, 3) := by decide +kernel
theorem xj_B_takeAway_30 : decode xb_B_takeAway 30 = .ok (.iload_n 2, 1) := by decide +kernel
theorem xj_B_takeAway_31 : decode xb_B_takeAway 31 = .ok (.aload_n 0, 1) := by decide +kernel
theorem xj_B_takeAway_32 : decode xb_B_takeAway 32 = .ok (.getfield 9, 3) := by decide +kernel
theorem xj_B_takeAway_35 : decode xb_B_takeAway 35 = .ok (.iload_n 2, 1) := by decide +kernel
theorem xj_B_takeAway_36 : decode xb_B_takeAway 36 = .ok (.bipush 6, 2) := by decide +kernel
theorem xj_B_takeAway_38 : decode xb_B_takeAway 38 = .ok (.iadd, 1) := by decide +kernel
theorem xj_B_takeAway_39 : decode xb_B_takeAway 39 = .ok (.iaload, 1) := by decide +kernel
theorem xj_B_takeAway_40 : decode xb_B_takeAway 40 = .ok (.iastore, 1) := by decide +kernel
theorem xj_B_takeAway_41 : decode xb_B_takeAway 41 = .ok (.aload_n 0, 1) := by decide +kernel
theorem xj_B_takeAway_42 : decode xb_B_takeAway 42 = .ok (.getfield 15, 3) := by decide +kernel
theorem xj_B_takeAway_45 : decode xb_B_takeAway 45 = .ok (.iload_n 2, 1) := by decide +kernel
theorem xj_B_takeAway_46 : decode xb_B_takeAway 46 = .ok (.aload_n 0, 1) := by decide +kernel
theorem xj_B_takeAway_47 : decode xb_B_takeAway 47 = .ok (.getfield 15, 3) := by decide +kernel
theorem xj_B_takeAway_50 : decode xb_B_takeAway 50 = .ok (.iload_n 2, 1) := by decide +kernel
theorem xj_B_takeAway_51 : decode xb_B_takeAway 51 = .ok (.bipush 6, 2) := by decide +kernel
theorem xj_B_takeAway_53 : decode xb_B_takeAway 53 = .ok (.iadd, 1) := by decide +kernel
theorem xj_B_takeAway_54 : decode xb_B_takeAway 54 = .ok (.iaload, 1) := by decide +kernel
theorem xj_B_takeAway_55 : decode xb_B_takeAway 55 = .ok (.iastore, 1) := by decide +kernel
theorem xj_B_takeAway_56 : decode xb_B_takeAway 56 = .ok (.iinc 2 1, 3) := by decide +kernel
theorem xj_B_takeAway_59 : decode xb_B_takeAway 59 = .ok (.goto (-44), 3) := by decide +kernel
theorem xj_B_takeAway_62 : decode xb_B_takeAway 62 = .ok (.return_, 1) := by decide +kernel
theorem xj_A_cost_0 : decode xb_A_cost 0 = .ok (.aload_n 3, 1) := by decide +kernel
theorem xj_A_cost_1 : decode xb_A_cost 1 = .ok (.iconst 0, 1) := by decide +kernel
theorem xj_A_cost_2 : decode xb_A_cost 2 = .ok (.aload_n 0, 1) := by decide +kernel
theorem xj_A_cost_3 : decode xb_A_cost 3 = .ok (.iload_n 1, 1) := by decide +kernel
theorem xj_A_cost_4 : decode xb_A_cost 4 = .ok (.iload_n 2, 1) := by decide +kernel
theorem xj_A_cost_5 : decode xb_A_cost 5 = .ok (.invokevirtual 33, 3) := by decide +kernel
theorem xj_A_cost_8 : decode xb_A_cost 8 = .ok (.i2l, 1) := by decide +kernel
theorem xj_A_cost_9 : decode xb_A_cost 9 = .ok (.lastore, 1) := by decide +kernel
theorem xj_A_cost_10 : decode xb_A_cost 10 = .ok (.goto 7, 3) := by decide +kernel
theorem xj_A_cost_13 : decode xb_A_cost 13 = .ok (.astore 4, 2) := by decide +kernel
theorem xj_A_cost_15 : decode xb_A_cost 15 = .ok (.iconst 1, 1) := by decide +kernel
theorem xj_A_cost_16 : decode xb_A_cost 16 = .ok (.ireturn, 1) := by decide +kernel
theorem xj_A_cost_17 : decode xb_A_cost 17 = .ok (.iconst 0, 1) := by decide +kernel
theorem xj_A_cost_18 : decode xb_A_cost 18 = .ok (.ireturn, 1) := by decide +kernel
theorem xj_L_cost_0 : decode xb_L_cost 0 = .ok (.aload_n 0, 1) := by decide +kernel
theorem xj_L_cost_1 : decode xb_L_cost 1 = .ok (.iload_n 1, 1) := by decide +kernel
theorem xj_L_cost_2 : decode xb_L_cost 2 = .ok (.invokevirtual 68, 3) := by decide +kernel
theorem xj_L_cost_5 : decode xb_L_cost 5 = .ok (.aload_n 0, 1) := by decide +kernel
theorem xj_L_cost_6 : decode xb_L_cost 6 = .ok (.iload_n 2, 1) := by decide +kernel
theorem xj_L_cost_7 : decode xb_L_cost 7 = .ok (.invokevirtual 68, 3) := by decide +kernel
theorem xj_L_cost_10 : decode xb_L_cost 10 = .ok (.aload_n 0, 1) := by decide +kernel
theorem xj_L_cost_11 : decode xb_L_cost 11 = .ok (.getfield 12, 3) := by decide +kernel
theorem xj_L_cost_14 : decode xb_L_cost 14 = .ok (.iload_n 1, 1) := by decide +kernel
theorem xj_L_cost_15 : decode xb_L_cost 15 = .ok (.iload_n 2, 1) := by decide +kernel
theorem xj_L_cost_16 : decode xb_L_cost 16 = .ok (.invokevirtual 90, 3) := by decide +kernel
theorem xj_L_cost_19 : decode xb_L_cost 19 = .ok (.ireturn, 1) := by decide +kernel
theorem xj_A_shown_0 : decode xb_A_shown 0 = .ok (.aload_n 3, 1) := by decide +kernel
theorem xj_A_shown_1 : decode xb_A_shown 1 = .ok (.iconst 0, 1) := by decide +kernel
theorem xj_A_shown_2 : decode xb_A_shown 2 = .ok (.aload_n 0, 1) := by decide +kernel
theorem xj_A_shown_3 : decode xb_A_shown 3 = .ok (.iload_n 1, 1) := by decide +kernel
theorem xj_A_shown_4 : decode xb_A_shown 4 = .ok (.iload_n 2, 1) := by decide +kernel
theorem xj_A_shown_5 : decode xb_A_shown 5 = .ok (.invokevirtual 37, 3) := by decide +kernel
theorem xj_A_shown_8 : decode xb_A_shown 8 = .ok (.i2l, 1) := by decide +kernel
theorem xj_A_shown_9 : decode xb_A_shown 9 = .ok (.lastore, 1) := by decide +kernel
theorem xj_A_shown_10 : decode xb_A_shown 10 = .ok (.goto 7, 3) := by decide +kernel
theorem xj_A_shown_13 : decode xb_A_shown 13 = .ok (.astore 4, 2) := by decide +kernel
theorem xj_A_shown_15 : decode xb_A_shown 15 = .ok (.iconst 1, 1) := by decide +kernel
theorem xj_A_shown_16 : decode xb_A_shown 16 = .ok (.ireturn, 1) := by decide +kernel
theorem xj_A_shown_17 : decode xb_A_shown 17 = .ok (.iconst 0, 1) := by decide +kernel
theorem xj_A_shown_18 : decode xb_A_shown 18 = .ok (.ireturn, 1) := by decide +kernel

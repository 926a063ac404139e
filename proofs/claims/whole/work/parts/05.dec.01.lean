/-! decode rows -/
theorem xj_L_shown_0 : decode xb_L_shown 0 = .ok (.aload_n 0, 1) := by decide +kernel
theorem xj_L_shown_1 : decode xb_L_shown 1 = .ok (.iload_n 1, 1) := by decide +kernel
theorem xj_L_shown_2 : decode xb_L_shown 2 = .ok (.invokevirtual 68, 3) := by decide +kernel
theorem xj_L_shown_5 : decode xb_L_shown 5 = .ok (.aload_n 0, 1) := by decide +kernel
theorem xj_L_shown_6 : decode xb_L_shown 6 = .ok (.iload_n 2, 1) := by decide +kernel
theorem xj_L_shown_7 : decode xb_L_shown 7 = .ok (.invokevirtual 68, 3) := by decide +kernel
theorem xj_L_shown_10 : decode xb_L_shown 10 = .ok (.aload_n 0, 1) := by decide +kernel
theorem xj_L_shown_11 : decode xb_L_shown 11 = .ok (.getfield 12, 3) := by decide +kernel
theorem xj_L_shown_14 : decode xb_L_shown 14 = .ok (.iload_n 1, 1) := by decide +kernel
theorem xj_L_shown_15 : decode xb_L_shown 15 = .ok (.iload_n 1, 1) := by decide +kernel
theorem xj_L_shown_16 : decode xb_L_shown 16 = .ok (.invokevirtual 90, 3) := by decide +kernel
theorem xj_L_shown_19 : decode xb_L_shown 19 = .ok (.istore_n 3, 1) := by decide +kernel
theorem xj_L_shown_20 : decode xb_L_shown 20 = .ok (.aload_n 0, 1) := by decide +kernel
theorem xj_L_shown_21 : decode xb_L_shown 21 = .ok (.getfield 12, 3) := by decide +kernel
theorem xj_L_shown_24 : decode xb_L_shown 24 = .ok (.iload_n 1, 1) := by decide +kernel
theorem xj_L_shown_25 : decode xb_L_shown 25 = .ok (.iload_n 2, 1) := by decide +kernel
theorem xj_L_shown_26 : decode xb_L_shown 26 = .ok (.invokevirtual 90, 3) := by decide +kernel
theorem xj_L_shown_29 : decode xb_L_shown 29 = .ok (.istore 4, 2) := by decide +kernel
theorem xj_L_shown_31 : decode xb_L_shown 31 = .ok (.iload 4, 2) := by decide +kernel
theorem xj_L_shown_33 : decode xb_L_shown 33 = .ok (.iload_n 3, 1) := by decide +kernel
theorem xj_L_shown_34 : decode xb_L_shown 34 = .ok (.if_icmp .ge 5, 3) := by decide +kernel
theorem xj_L_shown_37 : decode xb_L_shown 37 = .ok (.iconst 2, 1) := by decide +kernel
theorem xj_L_shown_38 : decode xb_L_shown 38 = .ok (.ireturn, 1) := by decide +kernel
theorem xj_L_shown_39 : decode xb_L_shown 39 = .ok (.iload 4, 2) := by decide +kernel
theorem xj_L_shown_41 : decode xb_L_shown 41 = .ok (.iload_n 3, 1) := by decide +kernel
theorem xj_L_shown_42 : decode xb_L_shown 42 = .ok (.if_icmp .ne 7, 3) := by decide +kernel
theorem xj_L_shown_45 : decode xb_L_shown 45 = .ok (.iconst 1, 1) := by decide +kernel
theorem xj_L_shown_46 : decode xb_L_shown 46 = .ok (.goto 4, 3) := by decide +kernel
theorem xj_L_shown_49 : decode xb_L_shown 49 = .ok (.iconst 0, 1) := by decide +kernel
theorem xj_L_shown_50 : decode xb_L_shown 50 = .ok (.ireturn, 1) := by decide +kernel
theorem xj_A_chain_0 : decode xb_A_chain 0 = .ok (.aload_n 3, 1) := by decide +kernel
theorem xj_A_chain_1 : decode xb_A_chain 1 = .ok (.iconst 0, 1) := by decide +kernel
theorem xj_A_chain_2 : decode xb_A_chain 2 = .ok (.aload_n 0, 1) := by decide +kernel
theorem xj_A_chain_3 : decode xb_A_chain 3 = .ok (.iload_n 1, 1) := by decide +kernel
theorem xj_A_chain_4 : decode xb_A_chain 4 = .ok (.iload_n 2, 1) := by decide +kernel
theorem xj_A_chain_5 : decode xb_A_chain 5 = .ok (.invokevirtual 40, 3) := by decide +kernel
theorem xj_A_chain_8 : decode xb_A_chain 8 = .ok (.i2l, 1) := by decide +kernel
theorem xj_A_chain_9 : decode xb_A_chain 9 = .ok (.lastore, 1) := by decide +kernel
theorem xj_A_chain_10 : decode xb_A_chain 10 = .ok (.goto 7, 3) := by decide +kernel
theorem xj_A_chain_13 : decode xb_A_chain 13 = .ok (.astore 4, 2) := by decide +kernel
theorem xj_A_chain_15 : decode xb_A_chain 15 = .ok (.iconst 1, 1) := by decide +kernel
theorem xj_A_chain_16 : decode xb_A_chain 16 = .ok (.ireturn, 1) := by decide +kernel
theorem xj_A_chain_17 : decode xb_A_chain 17 = .ok (.iconst 0, 1) := by decide +kernel
theorem xj_A_chain_18 : decode xb_A_chain 18 = .ok (.ireturn, 1) := by decide +kernel
theorem xj_L_chain_0 : decode xb_L_chain 0 = .ok (.aload_n 0, 1) := by decide +kernel
theorem xj_L_chain_1 : decode xb_L_chain 1 = .ok (.iload_n 1, 1) := by decide +kernel
theorem xj_L_chain_2 : decode xb_L_chain 2 = .ok (.invokevirtual 68, 3) := by decide +kernel
theorem xj_L_chain_5 : decode xb_L_chain 5 = .ok (.aload_n 0, 1) := by decide +kernel
theorem xj_L_chain_6 : decode xb_L_chain 6 = .ok (.iload_n 2, 1) := by decide +kernel
theorem xj_L_chain_7 : decode xb_L_chain 7 = .ok (.invokevirtual 68, 3) := by decide +kernel
theorem xj_L_chain_10 : decode xb_L_chain 10 = .ok (.aload_n 0, 1) := by decide +kernel
theorem xj_L_chain_11 : decode xb_L_chain 11 = .ok (.invokevirtual 94, 3) := by decide +kernel
theorem xj_L_chain_14 : decode xb_L_chain 14 = .ok (.aload_n 0, 1) := by decide +kernel
theorem xj_L_chain_15 : decode xb_L_chain 15 = .ok (.getfield 19, 3) := by decide +kernel
theorem xj_L_chain_18 : decode xb_L_chain 18 = .ok (.iload_n 1, 1) := by decide +kernel
theorem xj_L_chain_19 : decode xb_L_chain 19 = .ok (.iload_n 2, 1) := by decide +kernel
theorem xj_L_chain_20 : decode xb_L_chain 20 = .ok (.invokevirtual 97, 3) := by decide +kernel
theorem xj_L_chain_23 : decode xb_L_chain 23 = .ok (.ireturn, 1) := by decide +kernel
theorem xj_L_readRecord_0 : decode xb_L_readRecord 0 = .ok (.aload_n 0, 1) := by decide +kernel
theorem xj_L_readRecord_1 : decode xb_L_readRecord 1 = .ok (.getfield 19, 3) := by decide +kernel
theorem xj_L_readRecord_4 : decode xb_L_readRecord 4 = .ok (.aload_n 0, 1) := by decide +kernel
theorem xj_L_readRecord_5 : decode xb_L_readRecord 5 = .ok (.getfield 12, 3) := by decide +kernel
theorem xj_L_readRecord_8 : decode xb_L_readRecord 8 = .ok (.aload_n 0, 1) := by decide +kernel
theorem xj_L_readRecord_9 : decode xb_L_readRecord 9 = .ok (.getfield 12, 3) := by decide +kernel
theorem xj_L_readRecord_12 : decode xb_L_readRecord 12 = .ok (.invokevirtual 103, 3) := by decide +kernel
theorem xj_L_readRecord_15 : decode xb_L_readRecord 15 = .ok (.iconst 1, 1) := by decide +kernel
theorem xj_L_readRecord_16 : decode xb_L_readRecord 16 = .ok (.iconst 1, 1) := by decide +kernel
theorem xj_L_readRecord_17 : decode xb_L_readRecord 17 = .ok (.invokevirtual 132, 3) := by decide +kernel
theorem xj_L_readRecord_20 : decode xb_L_readRecord 20 = .ok (.return_, 1) := by decide +kernel
theorem xj_R_steps_0 : decode xb_R_steps 0 = .ok (.aload_n 0, 1) := by decide +kernel
theorem xj_R_steps_1 : decode xb_R_steps 1 = .ok (.getfield 9, 3) := by decide +kernel
theorem xj_R_steps_4 : decode xb_R_steps 4 = .ok (.iload_n 1, 1) := by decide +kernel
theorem xj_R_steps_5 : decode xb_R_steps 5 = .ok (.iaload, 1) := by decide +kernel
theorem xj_R_steps_6 : decode xb_R_steps 6 = .ok (.istore_n 3, 1) := by decide +kernel
theorem xj_R_steps_7 : decode xb_R_steps 7 = .ok (.iconst 1, 1) := by decide +kernel
theorem xj_R_steps_8 : decode xb_R_steps 8 = .ok (.istore 4, 2) := by decide +kernel
theorem xj_R_steps_10 : decode xb_R_steps 10 = .ok (.iload 4, 2) := by decide +kernel
theorem xj_R_steps_12 : decode xb_R_steps 12 = .ok (.bipush 13, 2) := by decide +kernel
theorem xj_R_steps_14 : decode xb_R_steps 14 = .ok (.if_icmp .gt 26, 3) := by decide +kernel
theorem xj_R_steps_17 : decode xb_R_steps 17 = .ok (.iload_n 3, 1) := by decide +kernel
theorem xj_R_steps_18 : decode xb_R_steps 18 = .ok (.iload_n 2, 1) := by decide +kernel
theorem xj_R_steps_19 : decode xb_R_steps 19 = .ok (.invokestatic 21, 3) := by decide +kernel
theorem xj_R_steps_22 : decode xb_R_steps 22 = .ok (.ifCond .eq 6, 3) := by decide +kernel
theorem xj_R_steps_25 : decode xb_R_steps 25 = .ok (.iload 4, 2) := by decide +kernel
theorem xj_R_steps_27 : decode xb_R_steps 27 = .ok (.ireturn, 1) := by decide +kernel
theorem xj_R_steps_28 : decode xb_R_steps 28 = .ok (.aload_n 0, 1) := by decide +kernel
theorem xj_R_steps_29 : decode xb_R_steps 29 = .ok (.iload_n 3, 1) := by decide +kernel
theorem xj_R_steps_30 : decode xb_R_steps 30 = .ok (.invokevirtual 43, 3) := by decide +kernel
theorem xj_R_steps_33 : decode xb_R_steps 33 = .ok (.istore_n 3, 1) := by decide +kernel
theorem xj_R_steps_34 : decode xb_R_steps 34 = .ok (.iinc 4 1, 3) := by decide +kernel
theorem xj_R_steps_37 : decode xb_R_steps 37 = .ok (.goto (-27), 3) := by decide +kernel
theorem xj_R_steps_40 : decode xb_R_steps 40 = .ok (.iconst (-1), 1) := by decide +kernel
theorem xj_R_steps_41 : decode xb_R_steps 41 = .ok (.ireturn, 1) := by decide +kernel
theorem xj_R_oneStepFrom_0 : decode xb_R_oneStepFrom 0 = .ok (.iconst 0, 1) := by decide +kernel
theorem xj_R_oneStepFrom_1 : decode xb_R_oneStepFrom 1 = .ok (.istore_n 2, 1) := by decide +kernel
theorem xj_R_oneStepFrom_2 : decode xb_R_oneStepFrom 2 = .ok (.iconst 0, 1) := by decide +kernel
theorem xj_R_oneStepFrom_3 : decode xb_R_oneStepFrom 3 = .ok (.istore_n 3, 1) := by decide +kernel
theorem xj_R_oneStepFrom_4 : decode xb_R_oneStepFrom 4 = .ok (.iload_n 3, 1) := by decide +kernel
theorem xj_R_oneStepFrom_5 : decode xb_R_oneStepFrom 5 = .ok (.bipush 13, 2) := by decide +kernel
theorem xj_R_oneStepFrom_7 : decode xb_R_oneStepFrom 7 = .ok (.if_icmp .ge 30, 3) := by decide +kernel
theorem xj_R_oneStepFrom_10 : decode xb_R_oneStepFrom 10 = .ok (.iload_n 2, 1) := by decide +kernel
theorem xj_R_oneStepFrom_11 : decode xb_R_oneStepFrom 11 = .ok (.iload_n 1, 1) := by decide +kernel
theorem xj_R_oneStepFrom_12 : decode xb_R_oneStepFrom 12 = .ok (.iload_n 3, 1) := by decide +kernel
theorem xj_R_oneStepFrom_13 : decode xb_R_oneStepFrom 13 = .ok (.invokestatic 21, 3) := by decide +kernel
theorem xj_R_oneStepFrom_16 : decode xb_R_oneStepFrom 16 = .ok (.ifCond .eq 12, 3) := by decide +kernel
theorem xj_R_oneStepFrom_19 : decode xb_R_oneStepFrom 19 = .ok (.aload_n 0, 1) := by decide +kernel
theorem xj_R_oneStepFrom_20 : decode xb_R_oneStepFrom 20 = .ok (.getfield 9, 3) := by decide +kernel
theorem xj_R_oneStepFrom_23 : decode xb_R_oneStepFrom 23 = .ok (.iload_n 3, 1) := by decide +kernel
theorem xj_R_oneStepFrom_24 : decode xb_R_oneStepFrom 24 = .ok (.iaload, 1) := by decide +kernel
theorem xj_R_oneStepFrom_25 : decode xb_R_oneStepFrom 25 = .ok (.goto 4, 3) := by decide +kernel
theorem xj_R_oneStepFrom_28 : decode xb_R_oneStepFrom 28 = .ok (.iconst 0, 1) := by decide +kernel
theorem xj_R_oneStepFrom_29 : decode xb_R_oneStepFrom 29 = .ok (.ior, 1) := by decide +kernel
theorem xj_R_oneStepFrom_30 : decode xb_R_oneStepFrom 30 = .ok (.istore_n 2, 1) := by decide +kernel
theorem xj_R_oneStepFrom_31 : decode xb_R_oneStepFrom 31 = .ok (.iinc 3 1, 3) := by decide +kernel
theorem xj_R_oneStepFrom_34 : decode xb_R_oneStepFrom 34 = .ok (.goto (-30), 3) := by decide +kernel
theorem xj_R_oneStepFrom_37 : decode xb_R_oneStepFrom 37 = .ok (.iload_n 2, 1) := by decide +kernel
theorem xj_R_oneStepFrom_38 : decode xb_R_oneStepFrom 38 = .ok (.ireturn, 1) := by decide +kernel
theorem xj_A_sensible_0 : decode xb_A_sensible 0 = .ok (.aload_n 2, 1) := by decide +kernel
theorem xj_A_sensible_1 : decode xb_A_sensible 1 = .ok (.iconst 0, 1) := by decide +kernel
theorem xj_A_sensible_2 : decode xb_A_sensible 2 = .ok (.aload_n 0, 1) := by decide +kernel
theorem xj_A_sensible_3 : decode xb_A_sensible 3 = .ok (.iload_n 1, 1) := by decide +kernel
theorem xj_A_sensible_4 : decode xb_A_sensible 4 = .ok (.invokevirtual 43, 3) := by decide +kernel
theorem xj_A_sensible_7 : decode xb_A_sensible 7 = .ok (.ifCond .eq 7, 3) := by decide +kernel
theorem xj_A_sensible_10 : decode xb_A_sensible 10 = .ok (.lconst 1, 1) := by decide +kernel
theorem xj_A_sensible_11 : decode xb_A_sensible 11 = .ok (.goto 4, 3) := by decide +kernel
theorem xj_A_sensible_14 : decode xb_A_sensible 14 = .ok (.lconst 0, 1) := by decide +kernel
theorem xj_A_sensible_15 : decode xb_A_sensible 15 = .ok (.lastore, 1) := by decide +kernel
theorem xj_A_sensible_16 : decode xb_A_sensible 16 = .ok (.goto 6, 3) := by decide +kernel
theorem xj_A_sensible_19 : decode xb_A_sensible 19 = .ok (.astore_n 3, 1) := by decide +kernel
theorem xj_A_sensible_20 : decode xb_A_sensible 20 = .ok (.iconst 1, 1) := by decide +kernel
theorem xj_A_sensible_21 : decode xb_A_sensible 21 = .ok (.ireturn, 1) := by decide +kernel
theorem xj_A_sensible_22 : decode xb_A_sensible 22 = .ok (.iconst 0, 1) := by decide +kernel
theorem xj_A_sensible_23 : decode xb_A_sensible 23 = .ok (.ireturn, 1) := by decide +kernel
theorem xj_L_sensible_0 : decode xb_L_sensible 0 = .ok (.iload_n 1, 1) := by decide +kernel
theorem xj_L_sensible_1 : decode xb_L_sensible 1 = .ok (.invokestatic 100, 3) := by decide +kernel
theorem xj_L_sensible_4 : decode xb_L_sensible 4 = .ok (.aload_n 0, 1) := by decide +kernel
theorem xj_L_sensible_5 : decode xb_L_sensible 5 = .ok (.invokevirtual 94, 3) := by decide +kernel
theorem xj_L_sensible_8 : decode xb_L_sensible 8 = .ok (.iload_n 1, 1) := by decide +kernel
theorem xj_L_sensible_9 : decode xb_L_sensible 9 = .ok (.ifCond .ne 20, 3) := by decide +kernel
theorem xj_L_sensible_12 : decode xb_L_sensible 12 = .ok (.aload_n 0, 1) := by decide +kernel
theorem xj_L_sensible_13 : decode xb_L_sensible 13 = .ok (.getfield 19, 3) := by decide +kernel
theorem xj_L_sensible_16 : decode xb_L_sensible 16 = .ok (.aload_n 0, 1) := by decide +kernel
theorem xj_L_sensible_17 : decode xb_L_sensible 17 = .ok (.getfield 12, 3) := by decide +kernel
theorem xj_L_sensible_20 : decode xb_L_sensible 20 = .ok (.invokevirtual 103, 3) := by decide +kernel
theorem xj_L_sensible_23 : decode xb_L_sensible 23 = .ok (.invokevirtual 106, 3) := by decide +kernel
theorem xj_L_sensible_26 : decode xb_L_sensible 26 = .ok (.goto 18, 3) := by decide +kernel
theorem xj_L_sensible_29 : decode xb_L_sensible 29 = .ok (.aload_n 0, 1) := by decide +kernel
theorem xj_L_sensible_30 : decode xb_L_sensible 30 = .ok (.getfield 19, 3) := by decide +kernel
theorem xj_L_sensible_33 : decode xb_L_sensible 33 = .ok (.invokevirtual 110, 3) := by decide +kernel
theorem xj_L_sensible_36 : decode xb_L_sensible 36 = .ok (.ifCond .ne 7, 3) := by decide +kernel
theorem xj_L_sensible_39 : decode xb_L_sensible 39 = .ok (.iconst 1, 1) := by decide +kernel
theorem xj_L_sensible_40 : decode xb_L_sensible 40 = .ok (.goto 4, 3) := by decide +kernel
theorem xj_L_sensible_43 : decode xb_L_sensible 43 = .ok (.iconst 0, 1) := by decide +kernel
theorem xj_L_sensible_44 : decode xb_L_sensible 44 = .ok (.ireturn, 1) := by decide +kernel
theorem xj_L_requireZeroOrOne_0 : decode xb_L_requireZeroOrOne 0 = .ok (.iload_n 0, 1) := by decide +kernel
theorem xj_L_requireZeroOrOne_1 : decode xb_L_requireZeroOrOne 1 = .ok (.ifCond .eq 18, 3) := by decide +kernel
theorem xj_L_requireZeroOrOne_4 : decode xb_L_requireZeroOrOne 4 = .ok (.iload_n 0, 1) := by decide +kernel
theorem xj_L_requireZeroOrOne_5 : decode xb_L_requireZeroOrOne 5 = .ok (.iconst 1, 1) := by decide +kernel
theorem xj_L_requireZeroOrOne_6 : decode xb_L_requireZeroOrOne 6 = .ok (.if_icmp .eq 13, 3) := by decide +kernel
theorem xj_L_requireZeroOrOne_9 : decode xb_L_requireZeroOrOne 9 = .ok (.new 48, 3) := by decide +kernel
theorem xj_L_requireZeroOrOne_12 : decode xb_L_requireZeroOrOne 12 = .ok (.dup, 1) := by decide +kernel
theorem xj_L_requireZeroOrOne_13 : decode xb_L_requireZeroOrOne 13 = .ok (.ldc 181, 2) := by decide +kernel
theorem xj_L_requireZeroOrOne_15 : decode xb_L_requireZeroOrOne 15 = .ok (.invokespecial 52, 3) := by decide +kernel
theorem xj_L_requireZeroOrOne_18 : decode xb_L_requireZeroOrOne 18 = .ok (.athrow, 1) := by decide +kernel
theorem xj_L_requireZeroOrOne_19 : decode xb_L_requireZeroOrOne 19 = .ok (.return_, 1) := by decide +kernel
theorem xj_R_hasPairAtOdds_0 : decode xb_R_hasPairAtOdds 0 = .ok (.iconst 0, 1) := by decide +kernel
theorem xj_R_hasPairAtOdds_1 : decode xb_R_hasPairAtOdds 1 = .ok (.istore_n 1, 1) := by decide +kernel
theorem xj_R_hasPairAtOdds_2 : decode xb_R_hasPairAtOdds 2 = .ok (.iload_n 1, 1) := by decide +kernel
theorem xj_R_hasPairAtOdds_3 : decode xb_R_hasPairAtOdds 3 = .ok (.bipush 13, 2) := by decide +kernel
theorem xj_R_hasPairAtOdds_5 : decode xb_R_hasPairAtOdds 5 = .ok (.if_icmp .ge 51, 3) := by decide +kernel
theorem xj_R_hasPairAtOdds_8 : decode xb_R_hasPairAtOdds 8 = .ok (.iconst 0, 1) := by decide +kernel
theorem xj_R_hasPairAtOdds_9 : decode xb_R_hasPairAtOdds 9 = .ok (.istore_n 2, 1) := by decide +kernel
theorem xj_R_hasPairAtOdds_10 : decode xb_R_hasPairAtOdds 10 = .ok (.iload_n 2, 1) := by decide +kernel
theorem xj_R_hasPairAtOdds_11 : decode xb_R_hasPairAtOdds 11 = .ok (.bipush 13, 2) := by decide +kernel
theorem xj_R_hasPairAtOdds_13 : decode xb_R_hasPairAtOdds 13 = .ok (.if_icmp .ge 37, 3) := by decide +kernel
theorem xj_R_hasPairAtOdds_16 : decode xb_R_hasPairAtOdds 16 = .ok (.aload_n 0, 1) := by decide +kernel
theorem xj_R_hasPairAtOdds_17 : decode xb_R_hasPairAtOdds 17 = .ok (.getfield 9, 3) := by decide +kernel
theorem xj_R_hasPairAtOdds_20 : decode xb_R_hasPairAtOdds 20 = .ok (.iload_n 1, 1) := by decide +kernel
theorem xj_R_hasPairAtOdds_21 : decode xb_R_hasPairAtOdds 21 = .ok (.iaload, 1) := by decide +kernel
theorem xj_R_hasPairAtOdds_22 : decode xb_R_hasPairAtOdds 22 = .ok (.iload_n 2, 1) := by decide +kernel
theorem xj_R_hasPairAtOdds_23 : decode xb_R_hasPairAtOdds 23 = .ok (.invokestatic 21, 3) := by decide +kernel
theorem xj_R_hasPairAtOdds_26 : decode xb_R_hasPairAtOdds 26 = .ok (.ifCond .eq 18, 3) := by decide +kernel
theorem xj_R_hasPairAtOdds_29 : decode xb_R_hasPairAtOdds 29 = .ok (.aload_n 0, 1) := by decide +kernel
theorem xj_R_hasPairAtOdds_30 : decode xb_R_hasPairAtOdds 30 = .ok (.getfield 15, 3) := by decide +kernel
theorem xj_R_hasPairAtOdds_33 : decode xb_R_hasPairAtOdds 33 = .ok (.iload_n 2, 1) := by decide +kernel
theorem xj_R_hasPairAtOdds_34 : decode xb_R_hasPairAtOdds 34 = .ok (.iaload, 1) := by decide +kernel
theorem xj_R_hasPairAtOdds_35 : decode xb_R_hasPairAtOdds 35 = .ok (.iload_n 1, 1) := by decide +kernel
theorem xj_R_hasPairAtOdds_36 : decode xb_R_hasPairAtOdds 36 = .ok (.invokestatic 21, 3) := by decide +kernel
theorem xj_R_hasPairAtOdds_39 : decode xb_R_hasPairAtOdds 39 = .ok (.ifCond .eq 5, 3) := by decide +kernel
theorem xj_R_hasPairAtOdds_42 : decode xb_R_hasPairAtOdds 42 = .ok (.iconst 1, 1) := by decide +kernel
theorem xj_R_hasPairAtOdds_43 : decode xb_R_hasPairAtOdds 43 = .ok (.ireturn, 1) := by decide +kernel
theorem xj_R_hasPairAtOdds_44 : decode xb_R_hasPairAtOdds 44 = .ok (.iinc 2 1, 3) := by decide +kernel
theorem xj_R_hasPairAtOdds_47 : decode xb_R_hasPairAtOdds 47 = .ok (.goto (-37), 3) := by decide +kernel
theorem xj_R_hasPairAtOdds_50 : decode xb_R_hasPairAtOdds 50 = .ok (.iinc 1 1, 3) := by decide +kernel
theorem xj_R_hasPairAtOdds_53 : decode xb_R_hasPairAtOdds 53 = .ok (.goto (-51), 3) := by decide +kernel
theorem xj_R_hasPairAtOdds_56 : decode xb_R_hasPairAtOdds 56 = .ok (.iconst 0, 1) := by decide +kernel
theorem xj_R_hasPairAtOdds_57 : decode xb_R_hasPairAtOdds 57 = .ok (.ireturn, 1) := by decide +kernel
theorem xj_A_circle_0 : decode xb_A_circle 0 = .ok (.aload_n 2, 1) := by decide +kernel
theorem xj_A_circle_1 : decode xb_A_circle 1 = .ok (.iconst 0, 1) := by decide +kernel
theorem xj_A_circle_2 : decode xb_A_circle 2 = .ok (.aload_n 0, 1) := by decide +kernel
theorem xj_A_circle_3 : decode xb_A_circle 3 = .ok (.iload_n 1, 1) := by decide +kernel
theorem xj_A_circle_4 : decode xb_A_circle 4 = .ok (.invokevirtual 47, 3) := by decide +kernel
theorem xj_A_circle_7 : decode xb_A_circle 7 = .ok (.i2l, 1) := by decide +kernel
theorem xj_A_circle_8 : decode xb_A_circle 8 = .ok (.lastore, 1) := by decide +kernel
theorem xj_A_circle_9 : decode xb_A_circle 9 = .ok (.goto 9, 3) := by decide +kernel
theorem xj_A_circle_12 : decode xb_A_circle 12 = .ok (.astore_n 3, 1) := by decide +kernel
theorem xj_A_circle_13 : decode xb_A_circle 13 = .ok (.iconst 1, 1) := by decide +kernel
theorem xj_A_circle_14 : decode xb_A_circle 14 = .ok (.ireturn, 1) := by decide +kernel
theorem xj_A_circle_15 : decode xb_A_circle 15 = .ok (.astore_n 3, 1) := by decide +kernel
theorem xj_A_circle_16 : decode xb_A_circle 16 = .ok (.iconst 2, 1) := by decide +kernel
theorem xj_A_circle_17 : decode xb_A_circle 17 = .ok (.ireturn, 1) := by decide +kernel
theorem xj_A_circle_18 : decode xb_A_circle 18 = .ok (.iconst 0, 1) := by decide +kernel
theorem xj_A_circle_19 : decode xb_A_circle 19 = .ok (.ireturn, 1) := by decide +kernel
theorem xj_L_circle_0 : decode xb_L_circle 0 = .ok (.aload_n 0, 1) := by decide +kernel
theorem xj_L_circle_1 : decode xb_L_circle 1 = .ok (.invokevirtual 94, 3) := by decide +kernel
theorem xj_L_circle_4 : decode xb_L_circle 4 = .ok (.aload_n 0, 1) := by decide +kernel
theorem xj_L_circle_5 : decode xb_L_circle 5 = .ok (.getfield 26, 3) := by decide +kernel
theorem xj_L_circle_8 : decode xb_L_circle 8 = .ok (.aload_n 0, 1) := by decide +kernel
theorem xj_L_circle_9 : decode xb_L_circle 9 = .ok (.getfield 19, 3) := by decide +kernel
theorem xj_L_circle_12 : decode xb_L_circle 12 = .ok (.invokevirtual 114, 3) := by decide +kernel
theorem xj_L_circle_15 : decode xb_L_circle 15 = .ok (.istore_n 2, 1) := by decide +kernel
theorem xj_L_circle_16 : decode xb_L_circle 16 = .ok (.iload_n 2, 1) := by decide +kernel
theorem xj_L_circle_17 : decode xb_L_circle 17 = .ok (.ifCond .ne 13, 3) := by decide +kernel
theorem xj_L_circle_20 : decode xb_L_circle 20 = .ok (.new 59, 3) := by decide +kernel
theorem xj_L_circle_23 : decode xb_L_circle 23 = .ok (.dup, 1) := by decide +kernel
theorem xj_L_circle_24 : decode xb_L_circle 24 = .ok (.ldc 118, 2) := by decide +kernel
theorem xj_L_circle_26 : decode xb_L_circle 26 = .ok (.invokespecial 63, 3) := by decide +kernel
theorem xj_L_circle_29 : decode xb_L_circle 29 = .ok (.athrow, 1) := by decide +kernel
theorem xj_L_circle_30 : decode xb_L_circle 30 = .ok (.iload_n 1, 1) := by decide +kernel
theorem xj_L_circle_31 : decode xb_L_circle 31 = .ok (.iconst (-1), 1) := by decide +kernel
theorem xj_L_circle_32 : decode xb_L_circle 32 = .ok (.if_icmp .ne 5, 3) := by decide +kernel
theorem xj_L_circle_35 : decode xb_L_circle 35 = .ok (.iload_n 2, 1) := by decide +kernel
theorem xj_L_circle_36 : decode xb_L_circle 36 = .ok (.ireturn, 1) := by decide +kernel
theorem xj_L_circle_37 : decode xb_L_circle 37 = .ok (.iload_n 1, 1) := by decide +kernel
theorem xj_L_circle_38 : decode xb_L_circle 38 = .ok (.ifCond .lt 8, 3) := by decide +kernel
theorem xj_L_circle_41 : decode xb_L_circle 41 = .ok (.iload_n 1, 1) := by decide +kernel
theorem xj_L_circle_42 : decode xb_L_circle 42 = .ok (.iload_n 2, 1) := by decide +kernel
theorem xj_L_circle_43 : decode xb_L_circle 43 = .ok (.if_icmp .lt 13, 3) := by decide +kernel
theorem xj_L_circle_46 : decode xb_L_circle 46 = .ok (.new 120, 3) := by decide +kernel
theorem xj_L_circle_49 : decode xb_L_circle 49 = .ok (.dup, 1) := by decide +kernel
theorem xj_L_circle_50 : decode xb_L_circle 50 = .ok (.ldc 122, 2) := by decide +kernel
theorem xj_L_circle_52 : decode xb_L_circle 52 = .ok (.invokespecial 124, 3) := by decide +kernel
theorem xj_L_circle_55 : decode xb_L_circle 55 = .ok (.athrow, 1) := by decide +kernel
theorem xj_L_circle_56 : decode xb_L_circle 56 = .ok (.aload_n 0, 1) := by decide +kernel
theorem xj_L_circle_57 : decode xb_L_circle 57 = .ok (.getfield 26, 3) := by decide +kernel
theorem xj_L_circle_60 : decode xb_L_circle 60 = .ok (.getfield 125, 3) := by decide +kernel
theorem xj_L_circle_63 : decode xb_L_circle 63 = .ok (.iload_n 1, 1) := by decide +kernel
theorem xj_L_circle_64 : decode xb_L_circle 64 = .ok (.iaload, 1) := by decide +kernel
theorem xj_L_circle_65 : decode xb_L_circle 65 = .ok (.ireturn, 1) := by decide +kernel
theorem xj_C_find_0 : decode xb_C_find 0 = .ok (.iconst (-1), 1) := by decide +kernel
theorem xj_C_find_1 : decode xb_C_find 1 = .ok (.istore_n 2, 1) := by decide +kernel
theorem xj_C_find_2 : decode xb_C_find 2 = .ok (.iconst 0, 1) := by decide +kernel
theorem xj_C_find_3 : decode xb_C_find 3 = .ok (.istore_n 3, 1) := by decide +kernel
theorem xj_C_find_4 : decode xb_C_find 4 = .ok (.iconst 0, 1) := by decide +kernel
theorem xj_C_find_5 : decode xb_C_find 5 = .ok (.istore 4, 2) := by decide +kernel
theorem xj_C_find_7 : decode xb_C_find 7 = .ok (.iload 4, 2) := by decide +kernel
theorem xj_C_find_9 : decode xb_C_find 9 = .ok (.bipush 12, 2) := by decide +kernel
theorem xj_C_find_11 : decode xb_C_find 11 = .ok (.if_icmp .ge 40, 3) := by decide +kernel
theorem xj_C_find_14 : decode xb_C_find 14 = .ok (.aload_n 0, 1) := by decide +kernel
theorem xj_C_find_15 : decode xb_C_find 15 = .ok (.aload_n 1, 1) := by decide +kernel
theorem xj_C_find_16 : decode xb_C_find 16 = .ok (.iload 4, 2) := by decide +kernel
theorem xj_C_find_18 : decode xb_C_find 18 = .ok (.invokevirtual 21, 3) := by decide +kernel
theorem xj_C_find_21 : decode xb_C_find 21 = .ok (.istore 5, 2) := by decide +kernel
theorem xj_C_find_23 : decode xb_C_find 23 = .ok (.iload 5, 2) := by decide +kernel
theorem xj_C_find_25 : decode xb_C_find 25 = .ok (.ifCond .eq 20, 3) := by decide +kernel
theorem xj_C_find_28 : decode xb_C_find 28 = .ok (.iload_n 2, 1) := by decide +kernel
theorem xj_C_find_29 : decode xb_C_find 29 = .ok (.iconst (-1), 1) := by decide +kernel
theorem xj_C_find_30 : decode xb_C_find 30 = .ok (.if_icmp .eq 9, 3) := by decide +kernel
theorem xj_C_find_33 : decode xb_C_find 33 = .ok (.iload 5, 2) := by decide +kernel
theorem xj_C_find_35 : decode xb_C_find 35 = .ok (.iload_n 3, 1) := by decide +kernel
theorem xj_C_find_36 : decode xb_C_find 36 = .ok (.if_icmp .ge 9, 3) := by decide +kernel
theorem xj_C_find_39 : decode xb_C_find 39 = .ok (.iload 4, 2) := by decide +kernel
theorem xj_C_find_41 : decode xb_C_find 41 = .ok (.istore_n 2, 1) := by decide +kernel
theorem xj_C_find_42 : decode xb_C_find 42 = .ok (.iload 5, 2) := by decide +kernel
theorem xj_C_find_44 : decode xb_C_find 44 = .ok (.istore_n 3, 1) := by decide +kernel
theorem xj_C_find_45 : decode xb_C_find 45 = .ok (.iinc 4 1, 3) := by decide +kernel
theorem xj_C_find_48 : decode xb_C_find 48 = .ok (.goto (-41), 3) := by decide +kernel
theorem xj_C_find_51 : decode xb_C_find 51 = .ok (.iload_n 2, 1) := by decide +kernel
theorem xj_C_find_52 : decode xb_C_find 52 = .ok (.iconst (-1), 1) := by decide +kernel
theorem xj_C_find_53 : decode xb_C_find 53 = .ok (.if_icmp .eq 16, 3) := by decide +kernel
theorem xj_C_find_56 : decode xb_C_find 56 = .ok (.aload_n 0, 1) := by decide +kernel
theorem xj_C_find_57 : decode xb_C_find 57 = .ok (.aload_n 1, 1) := by decide +kernel
theorem xj_C_find_58 : decode xb_C_find 58 = .ok (.iload_n 2, 1) := by decide +kernel
theorem xj_C_find_59 : decode xb_C_find 59 = .ok (.invokevirtual 25, 3) := by decide +kernel
theorem xj_C_find_62 : decode xb_C_find 62 = .ok (.aload_n 0, 1) := by decide +kernel
theorem xj_C_find_63 : decode xb_C_find 63 = .ok (.aload_n 1, 1) := by decide +kernel
theorem xj_C_find_64 : decode xb_C_find 64 = .ok (.iload_n 2, 1) := by decide +kernel
theorem xj_C_find_65 : decode xb_C_find 65 = .ok (.iload_n 3, 1) := by decide +kernel
theorem xj_C_find_66 : decode xb_C_find 66 = .ok (.invokevirtual 29, 3) := by decide +kernel
theorem xj_C_find_69 : decode xb_C_find 69 = .ok (.iload_n 3, 1) := by decide +kernel
theorem xj_C_find_70 : decode xb_C_find 70 = .ok (.ireturn, 1) := by decide +kernel
theorem xj_C_shortestFrom_0 : decode xb_C_shortestFrom 0 = .ok (.aload_n 0, 1) := by decide +kernel
theorem xj_C_shortestFrom_1 : decode xb_C_shortestFrom 1 = .ok (.aload_n 1, 1) := by decide +kernel
theorem xj_C_shortestFrom_2 : decode xb_C_shortestFrom 2 = .ok (.iload_n 2, 1) := by decide +kernel
theorem xj_C_shortestFrom_3 : decode xb_C_shortestFrom 3 = .ok (.invokevirtual 25, 3) := by decide +kernel
theorem xj_C_shortestFrom_6 : decode xb_C_shortestFrom 6 = .ok (.iconst 1, 1) := by decide +kernel
theorem xj_C_shortestFrom_7 : decode xb_C_shortestFrom 7 = .ok (.istore_n 3, 1) := by decide +kernel
theorem xj_C_shortestFrom_8 : decode xb_C_shortestFrom 8 = .ok (.iload_n 3, 1) := by decide +kernel
theorem xj_C_shortestFrom_9 : decode xb_C_shortestFrom 9 = .ok (.bipush 12, 2) := by decide +kernel
theorem xj_C_shortestFrom_11 : decode xb_C_shortestFrom 11 = .ok (.if_icmp .gt 24, 3) := by decide +kernel
theorem xj_C_shortestFrom_14 : decode xb_C_shortestFrom 14 = .ok (.aload_n 0, 1) := by decide +kernel
theorem xj_C_shortestFrom_15 : decode xb_C_shortestFrom 15 = .ok (.getfield 15, 3) := by decide +kernel
theorem xj_C_shortestFrom_18 : decode xb_C_shortestFrom 18 = .ok (.iload_n 3, 1) := by decide +kernel
theorem xj_C_shortestFrom_19 : decode xb_C_shortestFrom 19 = .ok (.iaload, 1) := by decide +kernel
theorem xj_C_shortestFrom_20 : decode xb_C_shortestFrom 20 = .ok (.iload_n 2, 1) := by decide +kernel
theorem xj_C_shortestFrom_21 : decode xb_C_shortestFrom 21 = .ok (.invokestatic 33, 3) := by decide +kernel
theorem xj_C_shortestFrom_24 : decode xb_C_shortestFrom 24 = .ok (.ifCond .eq 5, 3) := by decide +kernel
theorem xj_C_shortestFrom_27 : decode xb_C_shortestFrom 27 = .ok (.iload_n 3, 1) := by decide +kernel
theorem xj_C_shortestFrom_28 : decode xb_C_shortestFrom 28 = .ok (.ireturn, 1) := by decide +kernel
theorem xj_C_shortestFrom_29 : decode xb_C_shortestFrom 29 = .ok (.iinc 3 1, 3) := by decide +kernel
theorem xj_C_shortestFrom_32 : decode xb_C_shortestFrom 32 = .ok (.goto (-24), 3) := by decide +kernel
theorem xj_C_shortestFrom_35 : decode xb_C_shortestFrom 35 = .ok (.iconst 0, 1) := by decide +kernel
theorem xj_C_shortestFrom_36 : decode xb_C_shortestFrom 36 = .ok (.ireturn, 1) := by decide +kernel
theorem xj_C_lookHome_0 : decode xb_C_lookHome 0 = .ok (.aload_n 0, 1) := by decide +kernel
theorem xj_C_lookHome_1 : decode xb_C_lookHome 1 = .ok (.getfield 9, 3) := by decide +kernel
theorem xj_C_lookHome_4 : decode xb_C_lookHome 4 = .ok (.iconst 0, 1) := by decide +kernel
theorem xj_C_lookHome_5 : decode xb_C_lookHome 5 = .ok (.iload_n 2, 1) := by decide +kernel
theorem xj_C_lookHome_6 : decode xb_C_lookHome 6 = .ok (.invokestatic 37, 3) := by decide +kernel
theorem xj_C_lookHome_9 : decode xb_C_lookHome 9 = .ok (.iastore, 1) := by decide +kernel
theorem xj_C_lookHome_10 : decode xb_C_lookHome 10 = .ok (.aload_n 0, 1) := by decide +kernel
theorem xj_C_lookHome_11 : decode xb_C_lookHome 11 = .ok (.getfield 15, 3) := by decide +kernel
theorem xj_C_lookHome_14 : decode xb_C_lookHome 14 = .ok (.iconst 0, 1) := by decide +kernel
theorem xj_C_lookHome_15 : decode xb_C_lookHome 15 = .ok (.iconst 0, 1) := by decide +kernel
theorem xj_C_lookHome_16 : decode xb_C_lookHome 16 = .ok (.iastore, 1) := by decide +kernel
theorem xj_C_lookHome_17 : decode xb_C_lookHome 17 = .ok (.iconst 1, 1) := by decide +kernel
theorem xj_C_lookHome_18 : decode xb_C_lookHome 18 = .ok (.istore_n 3, 1) := by decide +kernel
theorem xj_C_lookHome_19 : decode xb_C_lookHome 19 = .ok (.iload_n 3, 1) := by decide +kernel
theorem xj_C_lookHome_20 : decode xb_C_lookHome 20 = .ok (.bipush 12, 2) := by decide +kernel
theorem xj_C_lookHome_22 : decode xb_C_lookHome 22 = .ok (.if_icmp .gt 107, 3) := by decide +kernel
theorem xj_C_lookHome_25 : decode xb_C_lookHome 25 = .ok (.aload_n 0, 1) := by decide +kernel
theorem xj_C_lookHome_26 : decode xb_C_lookHome 26 = .ok (.getfield 9, 3) := by decide +kernel
theorem xj_C_lookHome_29 : decode xb_C_lookHome 29 = .ok (.iload_n 3, 1) := by decide +kernel
theorem xj_C_lookHome_30 : decode xb_C_lookHome 30 = .ok (.iconst 0, 1) := by decide +kernel
theorem xj_C_lookHome_31 : decode xb_C_lookHome 31 = .ok (.iastore, 1) := by decide +kernel
theorem xj_C_lookHome_32 : decode xb_C_lookHome 32 = .ok (.aload_n 0, 1) := by decide +kernel
theorem xj_C_lookHome_33 : decode xb_C_lookHome 33 = .ok (.getfield 15, 3) := by decide +kernel
theorem xj_C_lookHome_36 : decode xb_C_lookHome 36 = .ok (.iload_n 3, 1) := by decide +kernel
theorem xj_C_lookHome_37 : decode xb_C_lookHome 37 = .ok (.iconst 0, 1) := by decide +kernel
theorem xj_C_lookHome_38 : decode xb_C_lookHome 38 = .ok (.iastore, 1) := by decide +kernel
theorem xj_C_lookHome_39 : decode xb_C_lookHome 39 = .ok (.iconst 0, 1) := by decide +kernel
theorem xj_C_lookHome_40 : decode xb_C_lookHome 40 = .ok (.istore 4, 2) := by decide +kernel
theorem xj_C_lookHome_42 : decode xb_C_lookHome 42 = .ok (.iload 4, 2) := by decide +kernel
theorem xj_C_lookHome_44 : decode xb_C_lookHome 44 = .ok (.bipush 12, 2) := by decide +kernel
theorem xj_C_lookHome_46 : decode xb_C_lookHome 46 = .ok (.if_icmp .ge 77, 3) := by decide +kernel
theorem xj_C_lookHome_49 : decode xb_C_lookHome 49 = .ok (.aload_n 0, 1) := by decide +kernel
theorem xj_C_lookHome_50 : decode xb_C_lookHome 50 = .ok (.getfield 9, 3) := by decide +kernel
theorem xj_C_lookHome_53 : decode xb_C_lookHome 53 = .ok (.iload_n 3, 1) := by decide +kernel
theorem xj_C_lookHome_54 : decode xb_C_lookHome 54 = .ok (.dup2, 1) := by decide +kernel
theorem xj_C_lookHome_55 : decode xb_C_lookHome 55 = .ok (.iaload, 1) := by decide +kernel
theorem xj_C_lookHome_56 : decode xb_C_lookHome 56 = .ok (.aload_n 1, 1) := by decide +kernel
theorem xj_C_lookHome_57 : decode xb_C_lookHome 57 = .ok (.getfield 41, 3) := by decide +kernel
theorem xj_C_lookHome_60 : decode xb_C_lookHome 60 = .ok (.iload 4, 2) := by decide +kernel
theorem xj_C_lookHome_62 : decode xb_C_lookHome 62 = .ok (.iaload, 1) := by decide +kernel
theorem xj_C_lookHome_63 : decode xb_C_lookHome 63 = .ok (.aload_n 0, 1) := by decide +kernel
theorem xj_C_lookHome_64 : decode xb_C_lookHome 64 = .ok (.getfield 9, 3) := by decide +kernel
theorem xj_C_lookHome_67 : decode xb_C_lookHome 67 = .ok (.iload_n 3, 1) := by decide +kernel
theorem xj_C_lookHome_68 : decode xb_C_lookHome 68 = .ok (.iconst 1, 1) := by decide +kernel
theorem xj_C_lookHome_69 : decode xb_C_lookHome 69 = .ok (.isub, 1) := by decide +kernel
theorem xj_C_lookHome_70 : decode xb_C_lookHome 70 = .ok (.iaload, 1) := by decide +kernel
theorem xj_C_lookHome_71 : decode xb_C_lookHome 71 = .ok (.iand, 1) := by decide +kernel
theorem xj_C_lookHome_72 : decode xb_C_lookHome 72 = .ok (.ifCond .eq 11, 3) := by decide +kernel
theorem xj_C_lookHome_75 : decode xb_C_lookHome 75 = .ok (.iload 4, 2) := by decide +kernel
theorem xj_C_lookHome_77 : decode xb_C_lookHome 77 = .ok (.invokestatic 37, 3) := by decide +kernel
theorem xj_C_lookHome_80 : decode xb_C_lookHome 80 = .ok (.goto 4, 3) := by decide +kernel
theorem xj_C_lookHome_83 : decode xb_C_lookHome 83 = .ok (.iconst 0, 1) := by decide +kernel
theorem xj_C_lookHome_84 : decode xb_C_lookHome 84 = .ok (.ior, 1) := by decide +kernel
theorem xj_C_lookHome_85 : decode xb_C_lookHome 85 = .ok (.iastore, 1) := by decide +kernel
theorem xj_C_lookHome_86 : decode xb_C_lookHome 86 = .ok (.aload_n 0, 1) := by decide +kernel
theorem xj_C_lookHome_87 : decode xb_C_lookHome 87 = .ok (.getfield 15, 3) := by decide +kernel
theorem xj_C_lookHome_90 : decode xb_C_lookHome 90 = .ok (.iload_n 3, 1) := by decide +kernel
theorem xj_C_lookHome_91 : decode xb_C_lookHome 91 = .ok (.dup2, 1) := by decide +kernel
theorem xj_C_lookHome_92 : decode xb_C_lookHome 92 = .ok (.iaload, 1) := by decide +kernel
theorem xj_C_lookHome_93 : decode xb_C_lookHome 93 = .ok (.aload_n 0, 1) := by decide +kernel
theorem xj_C_lookHome_94 : decode xb_C_lookHome 94 = .ok (.aload_n 1, 1) := by decide +kernel
theorem xj_C_lookHome_95 : decode xb_C_lookHome 95 = .ok (.iload 4, 2) := by decide +kernel
theorem xj_C_lookHome_97 : decode xb_C_lookHome 97 = .ok (.iload_n 3, 1) := by decide +kernel
theorem xj_C_lookHome_98 : decode xb_C_lookHome 98 = .ok (.iconst 1, 1) := by decide +kernel
theorem xj_C_lookHome_99 : decode xb_C_lookHome 99 = .ok (.isub, 1) := by decide +kernel
theorem xj_C_lookHome_100 : decode xb_C_lookHome 100 = .ok (.invokevirtual 46, 3) := by decide +kernel
theorem xj_C_lookHome_103 : decode xb_C_lookHome 103 = .ok (.ifCond .eq 11, 3) := by decide +kernel
theorem xj_C_lookHome_106 : decode xb_C_lookHome 106 = .ok (.iload 4, 2) := by decide +kernel
theorem xj_C_lookHome_108 : decode xb_C_lookHome 108 = .ok (.invokestatic 37, 3) := by decide +kernel
theorem xj_C_lookHome_111 : decode xb_C_lookHome 111 = .ok (.goto 4, 3) := by decide +kernel
theorem xj_C_lookHome_114 : decode xb_C_lookHome 114 = .ok (.iconst 0, 1) := by decide +kernel
theorem xj_C_lookHome_115 : decode xb_C_lookHome 115 = .ok (.ior, 1) := by decide +kernel
theorem xj_C_lookHome_116 : decode xb_C_lookHome 116 = .ok (.iastore, 1) := by decide +kernel
theorem xj_C_lookHome_117 : decode xb_C_lookHome 117 = .ok (.iinc 4 1, 3) := by decide +kernel
theorem xj_C_lookHome_120 : decode xb_C_lookHome 120 = .ok (.goto (-78), 3) := by decide +kernel
theorem xj_C_lookHome_123 : decode xb_C_lookHome 123 = .ok (.iinc 3 1, 3) := by decide +kernel
theorem xj_C_lookHome_126 : decode xb_C_lookHome 126 = .ok (.goto (-107), 3) := by decide +kernel
theorem xj_C_lookHome_129 : decode xb_C_lookHome 129 = .ok (.return_, 1) := by decide +kernel
theorem xj_C_nextWithBetter_0 : decode xb_C_nextWithBetter 0 = .ok (.aload_n 1, 1) := by decide +kernel
theorem xj_C_nextWithBetter_1 : decode xb_C_nextWithBetter 1 = .ok (.getfield 41, 3) := by decide +kernel
theorem xj_C_nextWithBetter_4 : decode xb_C_nextWithBetter 4 = .ok (.iload_n 2, 1) := by decide +kernel
theorem xj_C_nextWithBetter_5 : decode xb_C_nextWithBetter 5 = .ok (.iaload, 1) := by decide +kernel
theorem xj_C_nextWithBetter_6 : decode xb_C_nextWithBetter 6 = .ok (.aload_n 0, 1) := by decide +kernel
theorem xj_C_nextWithBetter_7 : decode xb_C_nextWithBetter 7 = .ok (.getfield 15, 3) := by decide +kernel
theorem xj_C_nextWithBetter_10 : decode xb_C_nextWithBetter 10 = .ok (.iload_n 3, 1) := by decide +kernel
theorem xj_C_nextWithBetter_11 : decode xb_C_nextWithBetter 11 = .ok (.iaload, 1) := by decide +kernel
theorem xj_C_nextWithBetter_12 : decode xb_C_nextWithBetter 12 = .ok (.iand, 1) := by decide +kernel
theorem xj_C_nextWithBetter_13 : decode xb_C_nextWithBetter 13 = .ok (.aload_n 1, 1) := by decide +kernel
theorem xj_C_nextWithBetter_14 : decode xb_C_nextWithBetter 14 = .ok (.getfield 50, 3) := by decide +kernel
theorem xj_C_nextWithBetter_17 : decode xb_C_nextWithBetter 17 = .ok (.iload_n 2, 1) := by decide +kernel
theorem xj_C_nextWithBetter_18 : decode xb_C_nextWithBetter 18 = .ok (.iaload, 1) := by decide +kernel
theorem xj_C_nextWithBetter_19 : decode xb_C_nextWithBetter 19 = .ok (.aload_n 0, 1) := by decide +kernel
theorem xj_C_nextWithBetter_20 : decode xb_C_nextWithBetter 20 = .ok (.getfield 9, 3) := by decide +kernel
theorem xj_C_nextWithBetter_23 : decode xb_C_nextWithBetter 23 = .ok (.iload_n 3, 1) := by decide +kernel
theorem xj_C_nextWithBetter_24 : decode xb_C_nextWithBetter 24 = .ok (.iaload, 1) := by decide +kernel
theorem xj_C_nextWithBetter_25 : decode xb_C_nextWithBetter 25 = .ok (.iand, 1) := by decide +kernel
theorem xj_C_nextWithBetter_26 : decode xb_C_nextWithBetter 26 = .ok (.ior, 1) := by decide +kernel
theorem xj_C_nextWithBetter_27 : decode xb_C_nextWithBetter 27 = .ok (.ireturn, 1) := by decide +kernel
theorem xj_C_writeList_0 : decode xb_C_writeList 0 = .ok (.iload_n 2, 1) := by decide +kernel
theorem xj_C_writeList_1 : decode xb_C_writeList 1 = .ok (.istore 4, 2) := by decide +kernel
theorem xj_C_writeList_3 : decode xb_C_writeList 3 = .ok (.iconst 0, 1) := by decide +kernel
theorem xj_C_writeList_4 : decode xb_C_writeList 4 = .ok (.istore 5, 2) := by decide +kernel
theorem xj_C_writeList_6 : decode xb_C_writeList 6 = .ok (.iconst 0, 1) := by decide +kernel
theorem xj_C_writeList_7 : decode xb_C_writeList 7 = .ok (.istore 6, 2) := by decide +kernel
theorem xj_C_writeList_9 : decode xb_C_writeList 9 = .ok (.iload 6, 2) := by decide +kernel
theorem xj_C_writeList_11 : decode xb_C_writeList 11 = .ok (.iload_n 3, 1) := by decide +kernel
theorem xj_C_writeList_12 : decode xb_C_writeList 12 = .ok (.if_icmp .ge 111, 3) := by decide +kernel
theorem xj_C_writeList_15 : decode xb_C_writeList 15 = .ok (.iload 4, 2) := by decide +kernel
theorem xj_C_writeList_17 : decode xb_C_writeList 17 = .ok (.iconst (-1), 1) := by decide +kernel
theorem xj_C_writeList_18 : decode xb_C_writeList 18 = .ok (.if_icmp .eq 105, 3) := by decide +kernel
theorem xj_C_writeList_21 : decode xb_C_writeList 21 = .ok (.aload_n 0, 1) := by decide +kernel
theorem xj_C_writeList_22 : decode xb_C_writeList 22 = .ok (.getfield 18, 3) := by decide +kernel
theorem xj_C_writeList_25 : decode xb_C_writeList 25 = .ok (.iload 6, 2) := by decide +kernel
theorem xj_C_writeList_27 : decode xb_C_writeList 27 = .ok (.iload 4, 2) := by decide +kernel
theorem xj_C_writeList_29 : decode xb_C_writeList 29 = .ok (.iastore, 1) := by decide +kernel
theorem xj_C_writeList_30 : decode xb_C_writeList 30 = .ok (.iload_n 3, 1) := by decide +kernel
theorem xj_C_writeList_31 : decode xb_C_writeList 31 = .ok (.iconst 1, 1) := by decide +kernel
theorem xj_C_writeList_32 : decode xb_C_writeList 32 = .ok (.isub, 1) := by decide +kernel
theorem xj_C_writeList_33 : decode xb_C_writeList 33 = .ok (.iload 6, 2) := by decide +kernel
theorem xj_C_writeList_35 : decode xb_C_writeList 35 = .ok (.isub, 1) := by decide +kernel
theorem xj_C_writeList_36 : decode xb_C_writeList 36 = .ok (.istore 7, 2) := by decide +kernel
theorem xj_C_writeList_38 : decode xb_C_writeList 38 = .ok (.iload 5, 2) := by decide +kernel
theorem xj_C_writeList_40 : decode xb_C_writeList 40 = .ok (.ifCond .eq 21, 3) := by decide +kernel
theorem xj_C_writeList_43 : decode xb_C_writeList 43 = .ok (.aload_n 1, 1) := by decide +kernel
theorem xj_C_writeList_44 : decode xb_C_writeList 44 = .ok (.getfield 41, 3) := by decide +kernel
theorem xj_C_writeList_47 : decode xb_C_writeList 47 = .ok (.iload 4, 2) := by decide +kernel
theorem xj_C_writeList_49 : decode xb_C_writeList 49 = .ok (.iaload, 1) := by decide +kernel
theorem xj_C_writeList_50 : decode xb_C_writeList 50 = .ok (.aload_n 0, 1) := by decide +kernel
theorem xj_C_writeList_51 : decode xb_C_writeList 51 = .ok (.getfield 9, 3) := by decide +kernel
theorem xj_C_writeList_54 : decode xb_C_writeList 54 = .ok (.iload 7, 2) := by decide +kernel
theorem xj_C_writeList_56 : decode xb_C_writeList 56 = .ok (.iaload, 1) := by decide +kernel
theorem xj_C_writeList_57 : decode xb_C_writeList 57 = .ok (.iand, 1) := by decide +kernel
theorem xj_C_writeList_58 : decode xb_C_writeList 58 = .ok (.goto 12, 3) := by decide +kernel
theorem xj_C_writeList_61 : decode xb_C_writeList 61 = .ok (.aload_n 0, 1) := by decide +kernel
theorem xj_C_writeList_62 : decode xb_C_writeList 62 = .ok (.aload_n 1, 1) := by decide +kernel
theorem xj_C_writeList_63 : decode xb_C_writeList 63 = .ok (.iload 4, 2) := by decide +kernel
theorem xj_C_writeList_65 : decode xb_C_writeList 65 = .ok (.iload 7, 2) := by decide +kernel
theorem xj_C_writeList_67 : decode xb_C_writeList 67 = .ok (.invokevirtual 46, 3) := by decide +kernel
theorem xj_C_writeList_70 : decode xb_C_writeList 70 = .ok (.istore 8, 2) := by decide +kernel
theorem xj_C_writeList_72 : decode xb_C_writeList 72 = .ok (.iload 8, 2) := by decide +kernel
theorem xj_C_writeList_74 : decode xb_C_writeList 74 = .ok (.iconst 0, 1) := by decide +kernel
theorem xj_C_writeList_75 : decode xb_C_writeList 75 = .ok (.invokestatic 53, 3) := by decide +kernel
theorem xj_C_writeList_78 : decode xb_C_writeList 78 = .ok (.istore 9, 2) := by decide +kernel
theorem xj_C_writeList_80 : decode xb_C_writeList 80 = .ok (.iload 5, 2) := by decide +kernel
theorem xj_C_writeList_82 : decode xb_C_writeList 82 = .ok (.ifCond .ne 24, 3) := by decide +kernel
theorem xj_C_writeList_85 : decode xb_C_writeList 85 = .ok (.iload 9, 2) := by decide +kernel
theorem xj_C_writeList_87 : decode xb_C_writeList 87 = .ok (.iconst (-1), 1) := by decide +kernel
theorem xj_C_writeList_88 : decode xb_C_writeList 88 = .ok (.if_icmp .eq 22, 3) := by decide +kernel
theorem xj_C_writeList_91 : decode xb_C_writeList 91 = .ok (.aload_n 1, 1) := by decide +kernel
theorem xj_C_writeList_92 : decode xb_C_writeList 92 = .ok (.getfield 50, 3) := by decide +kernel
theorem xj_C_writeList_95 : decode xb_C_writeList 95 = .ok (.iload 4, 2) := by decide +kernel
theorem xj_C_writeList_97 : decode xb_C_writeList 97 = .ok (.iaload, 1) := by decide +kernel
theorem xj_C_writeList_98 : decode xb_C_writeList 98 = .ok (.iload 9, 2) := by decide +kernel
theorem xj_C_writeList_100 : decode xb_C_writeList 100 = .ok (.invokestatic 33, 3) := by decide +kernel
theorem xj_C_writeList_103 : decode xb_C_writeList 103 = .ok (.ifCond .eq 7, 3) := by decide +kernel
theorem xj_C_writeList_106 : decode xb_C_writeList 106 = .ok (.iconst 1, 1) := by decide +kernel
theorem xj_C_writeList_107 : decode xb_C_writeList 107 = .ok (.goto 4, 3) := by decide +kernel
theorem xj_C_writeList_110 : decode xb_C_writeList 110 = .ok (.iconst 0, 1) := by decide +kernel
theorem xj_C_writeList_111 : decode xb_C_writeList 111 = .ok (.istore 5, 2) := by decide +kernel
theorem xj_C_writeList_113 : decode xb_C_writeList 113 = .ok (.iload 9, 2) := by decide +kernel
theorem xj_C_writeList_115 : decode xb_C_writeList 115 = .ok (.istore 4, 2) := by decide +kernel
theorem xj_C_writeList_117 : decode xb_C_writeList 117 = .ok (.iinc 6 1, 3) := by decide +kernel
theorem xj_C_writeList_120 : decode xb_C_writeList 120 = .ok (.goto (-111), 3) := by decide +kernel
theorem xj_C_writeList_123 : decode xb_C_writeList 123 = .ok (.return_, 1) := by decide +kernel
theorem xj_L_member_0 : decode xb_L_member 0 = .ok (.iconst 0, 1) := by decide +kernel
theorem xj_L_member_1 : decode xb_L_member 1 = .ok (.istore_n 2, 1) := by decide +kernel
theorem xj_L_member_2 : decode xb_L_member 2 = .ok (.iconst 0, 1) := by decide +kernel
theorem xj_L_member_3 : decode xb_L_member 3 = .ok (.istore_n 3, 1) := by decide +kernel
theorem xj_L_member_4 : decode xb_L_member 4 = .ok (.iload_n 3, 1) := by decide +kernel
theorem xj_L_member_5 : decode xb_L_member 5 = .ok (.bipush 13, 2) := by decide +kernel
theorem xj_L_member_7 : decode xb_L_member 7 = .ok (.if_icmp .ge 27, 3) := by decide +kernel
theorem xj_L_member_10 : decode xb_L_member 10 = .ok (.iload_n 0, 1) := by decide +kernel
theorem xj_L_member_11 : decode xb_L_member 11 = .ok (.iload_n 3, 1) := by decide +kernel
theorem xj_L_member_12 : decode xb_L_member 12 = .ok (.invokestatic 183, 3) := by decide +kernel
theorem xj_L_member_15 : decode xb_L_member 15 = .ok (.ifCond .eq 13, 3) := by decide +kernel
theorem xj_L_member_18 : decode xb_L_member 18 = .ok (.iload_n 2, 1) := by decide +kernel
theorem xj_L_member_19 : decode xb_L_member 19 = .ok (.iload_n 1, 1) := by decide +kernel
theorem xj_L_member_20 : decode xb_L_member 20 = .ok (.if_icmp .ne 5, 3) := by decide +kernel
theorem xj_L_member_23 : decode xb_L_member 23 = .ok (.iload_n 3, 1) := by decide +kernel
theorem xj_L_member_24 : decode xb_L_member 24 = .ok (.ireturn, 1) := by decide +kernel
theorem xj_L_member_25 : decode xb_L_member 25 = .ok (.iinc 2 1, 3) := by decide +kernel
theorem xj_L_member_28 : decode xb_L_member 28 = .ok (.iinc 3 1, 3) := by decide +kernel
theorem xj_L_member_31 : decode xb_L_member 31 = .ok (.goto (-27), 3) := by decide +kernel
theorem xj_L_member_34 : decode xb_L_member 34 = .ok (.iconst (-1), 1) := by decide +kernel
theorem xj_L_member_35 : decode xb_L_member 35 = .ok (.ireturn, 1) := by decide +kernel
theorem xj_A_passes_0 : decode xb_A_passes 0 = .ok (.aload_n 3, 1) := by decide +kernel
theorem xj_A_passes_1 : decode xb_A_passes 1 = .ok (.iconst 0, 1) := by decide +kernel
theorem xj_A_passes_2 : decode xb_A_passes 2 = .ok (.aload_n 0, 1) := by decide +kernel
theorem xj_A_passes_3 : decode xb_A_passes 3 = .ok (.iload_n 1, 1) := by decide +kernel
theorem xj_A_passes_4 : decode xb_A_passes 4 = .ok (.iload_n 2, 1) := by decide +kernel
theorem xj_A_passes_5 : decode xb_A_passes 5 = .ok (.invokevirtual 51, 3) := by decide +kernel
theorem xj_A_passes_8 : decode xb_A_passes 8 = .ok (.ifCond .eq 7, 3) := by decide +kernel
theorem xj_A_passes_11 : decode xb_A_passes 11 = .ok (.lconst 1, 1) := by decide +kernel
theorem xj_A_passes_12 : decode xb_A_passes 12 = .ok (.goto 4, 3) := by decide +kernel
theorem xj_A_passes_15 : decode xb_A_passes 15 = .ok (.lconst 0, 1) := by decide +kernel
theorem xj_A_passes_16 : decode xb_A_passes 16 = .ok (.lastore, 1) := by decide +kernel
theorem xj_A_passes_17 : decode xb_A_passes 17 = .ok (.goto 7, 3) := by decide +kernel
theorem xj_A_passes_20 : decode xb_A_passes 20 = .ok (.astore 4, 2) := by decide +kernel
theorem xj_A_passes_22 : decode xb_A_passes 22 = .ok (.iconst 1, 1) := by decide +kernel
theorem xj_A_passes_23 : decode xb_A_passes 23 = .ok (.ireturn, 1) := by decide +kernel
theorem xj_A_passes_24 : decode xb_A_passes 24 = .ok (.iconst 0, 1) := by decide +kernel
theorem xj_A_passes_25 : decode xb_A_passes 25 = .ok (.ireturn, 1) := by decide +kernel
theorem xj_L_passes_0 : decode xb_L_passes 0 = .ok (.iload_n 2, 1) := by decide +kernel
theorem xj_L_passes_1 : decode xb_L_passes 1 = .ok (.iconst 1, 1) := by decide +kernel
theorem xj_L_passes_2 : decode xb_L_passes 2 = .ok (.if_icmp .lt 19, 3) := by decide +kernel
theorem xj_L_passes_5 : decode xb_L_passes 5 = .ok (.iload_n 2, 1) := by decide +kernel
theorem xj_L_passes_6 : decode xb_L_passes 6 = .ok (.ldc 129, 2) := by decide +kernel
theorem xj_L_passes_8 : decode xb_L_passes 8 = .ok (.if_icmp .gt 13, 3) := by decide +kernel
theorem xj_L_passes_11 : decode xb_L_passes 11 = .ok (.iload_n 1, 1) := by decide +kernel
theorem xj_L_passes_12 : decode xb_L_passes 12 = .ok (.iconst 1, 1) := by decide +kernel
theorem xj_L_passes_13 : decode xb_L_passes 13 = .ok (.if_icmp .lt 8, 3) := by decide +kernel
theorem xj_L_passes_16 : decode xb_L_passes 16 = .ok (.iload_n 1, 1) := by decide +kernel
theorem xj_L_passes_17 : decode xb_L_passes 17 = .ok (.iload_n 2, 1) := by decide +kernel
theorem xj_L_passes_18 : decode xb_L_passes 18 = .ok (.if_icmp .le 13, 3) := by decide +kernel
theorem xj_L_passes_21 : decode xb_L_passes 21 = .ok (.new 48, 3) := by decide +kernel
theorem xj_L_passes_24 : decode xb_L_passes 24 = .ok (.dup, 1) := by decide +kernel
theorem xj_L_passes_25 : decode xb_L_passes 25 = .ok (.ldc 130, 2) := by decide +kernel
theorem xj_L_passes_27 : decode xb_L_passes 27 = .ok (.invokespecial 52, 3) := by decide +kernel
theorem xj_L_passes_30 : decode xb_L_passes 30 = .ok (.athrow, 1) := by decide +kernel
theorem xj_L_passes_31 : decode xb_L_passes 31 = .ok (.aload_n 0, 1) := by decide +kernel
theorem xj_L_passes_32 : decode xb_L_passes 32 = .ok (.getfield 19, 3) := by decide +kernel
theorem xj_L_passes_35 : decode xb_L_passes 35 = .ok (.aload_n 0, 1) := by decide +kernel
theorem xj_L_passes_36 : decode xb_L_passes 36 = .ok (.getfield 12, 3) := by decide +kernel
theorem xj_L_passes_39 : decode xb_L_passes 39 = .ok (.aload_n 0, 1) := by decide +kernel
theorem xj_L_passes_40 : decode xb_L_passes 40 = .ok (.getfield 12, 3) := by decide +kernel
theorem xj_L_passes_43 : decode xb_L_passes 43 = .ok (.invokevirtual 103, 3) := by decide +kernel
theorem xj_L_passes_46 : decode xb_L_passes 46 = .ok (.iload_n 1, 1) := by decide +kernel
theorem xj_L_passes_47 : decode xb_L_passes 47 = .ok (.iload_n 2, 1) := by decide +kernel
theorem xj_L_passes_48 : decode xb_L_passes 48 = .ok (.invokevirtual 132, 3) := by decide +kernel
theorem xj_L_passes_51 : decode xb_L_passes 51 = .ok (.aload_n 0, 1) := by decide +kernel
theorem xj_L_passes_52 : decode xb_L_passes 52 = .ok (.getfield 19, 3) := by decide +kernel
theorem xj_L_passes_55 : decode xb_L_passes 55 = .ok (.aload_n 0, 1) := by decide +kernel
theorem xj_L_passes_56 : decode xb_L_passes 56 = .ok (.getfield 12, 3) := by decide +kernel
theorem xj_L_passes_59 : decode xb_L_passes 59 = .ok (.invokevirtual 103, 3) := by decide +kernel
theorem xj_L_passes_62 : decode xb_L_passes 62 = .ok (.invokevirtual 106, 3) := by decide +kernel
theorem xj_L_passes_65 : decode xb_L_passes 65 = .ok (.ireturn, 1) := by decide +kernel
theorem xj_A_shrinkage_0 : decode xb_A_shrinkage 0 = .ok (.aload_n 2, 1) := by decide +kernel
theorem xj_A_shrinkage_1 : decode xb_A_shrinkage 1 = .ok (.iconst 0, 1) := by decide +kernel
theorem xj_A_shrinkage_2 : decode xb_A_shrinkage 2 = .ok (.aload_n 0, 1) := by decide +kernel
theorem xj_A_shrinkage_3 : decode xb_A_shrinkage 3 = .ok (.iload_n 1, 1) := by decide +kernel
theorem xj_A_shrinkage_4 : decode xb_A_shrinkage 4 = .ok (.invokevirtual 55, 3) := by decide +kernel
theorem xj_A_shrinkage_7 : decode xb_A_shrinkage 7 = .ok (.i2l, 1) := by decide +kernel
theorem xj_A_shrinkage_8 : decode xb_A_shrinkage 8 = .ok (.lastore, 1) := by decide +kernel
theorem xj_A_shrinkage_9 : decode xb_A_shrinkage 9 = .ok (.goto 6, 3) := by decide +kernel
theorem xj_A_shrinkage_12 : decode xb_A_shrinkage 12 = .ok (.astore_n 3, 1) := by decide +kernel
theorem xj_A_shrinkage_13 : decode xb_A_shrinkage 13 = .ok (.iconst 1, 1) := by decide +kernel
theorem xj_A_shrinkage_14 : decode xb_A_shrinkage 14 = .ok (.ireturn, 1) := by decide +kernel
theorem xj_A_shrinkage_15 : decode xb_A_shrinkage 15 = .ok (.iconst 0, 1) := by decide +kernel
theorem xj_A_shrinkage_16 : decode xb_A_shrinkage 16 = .ok (.ireturn, 1) := by decide +kernel
theorem xj_L_shrinkage_0 : decode xb_L_shrinkage 0 = .ok (.iload_n 1, 1) := by decide +kernel
theorem xj_L_shrinkage_1 : decode xb_L_shrinkage 1 = .ok (.invokestatic 100, 3) := by decide +kernel
theorem xj_L_shrinkage_4 : decode xb_L_shrinkage 4 = .ok (.aload_n 0, 1) := by decide +kernel
theorem xj_L_shrinkage_5 : decode xb_L_shrinkage 5 = .ok (.getfield 40, 3) := by decide +kernel
theorem xj_L_shrinkage_8 : decode xb_L_shrinkage 8 = .ok (.aload_n 0, 1) := by decide +kernel
theorem xj_L_shrinkage_9 : decode xb_L_shrinkage 9 = .ok (.getfield 12, 3) := by decide +kernel
theorem xj_L_shrinkage_12 : decode xb_L_shrinkage 12 = .ok (.invokevirtual 136, 3) := by decide +kernel
theorem xj_L_shrinkage_15 : decode xb_L_shrinkage 15 = .ok (.iload_n 1, 1) := by decide +kernel
theorem xj_L_shrinkage_16 : decode xb_L_shrinkage 16 = .ok (.ifCond .ne 13, 3) := by decide +kernel
theorem xj_L_shrinkage_19 : decode xb_L_shrinkage 19 = .ok (.aload_n 0, 1) := by decide +kernel
theorem xj_L_shrinkage_20 : decode xb_L_shrinkage 20 = .ok (.getfield 40, 3) := by decide +kernel
theorem xj_L_shrinkage_23 : decode xb_L_shrinkage 23 = .ok (.getfield 139, 3) := by decide +kernel
theorem xj_L_shrinkage_26 : decode xb_L_shrinkage 26 = .ok (.goto 10, 3) := by decide +kernel
theorem xj_L_shrinkage_29 : decode xb_L_shrinkage 29 = .ok (.aload_n 0, 1) := by decide +kernel
theorem xj_L_shrinkage_30 : decode xb_L_shrinkage 30 = .ok (.getfield 40, 3) := by decide +kernel
theorem xj_L_shrinkage_33 : decode xb_L_shrinkage 33 = .ok (.getfield 142, 3) := by decide +kernel
theorem xj_L_shrinkage_36 : decode xb_L_shrinkage 36 = .ok (.ireturn, 1) := by decide +kernel
theorem xj_S_find_0 : decode xb_S_find 0 = .ok (.aload_n 0, 1) := by decide +kernel
theorem xj_S_find_1 : decode xb_S_find 1 = .ok (.aload_n 1, 1) := by decide +kernel
theorem xj_S_find_2 : decode xb_S_find 2 = .ok (.invokevirtual 18, 3) := by decide +kernel
theorem xj_S_find_5 : decode xb_S_find 5 = .ok (.iconst 0, 1) := by decide +kernel
theorem xj_S_find_6 : decode xb_S_find 6 = .ok (.istore_n 2, 1) := by decide +kernel
theorem xj_S_find_7 : decode xb_S_find 7 = .ok (.iload_n 2, 1) := by decide +kernel
theorem xj_S_find_8 : decode xb_S_find 8 = .ok (.aload_n 1, 1) := by decide +kernel
theorem xj_S_find_9 : decode xb_S_find 9 = .ok (.getfield 22, 3) := by decide +kernel
theorem xj_S_find_12 : decode xb_S_find 12 = .ok (.if_icmp .ge 18, 3) := by decide +kernel
theorem xj_S_find_15 : decode xb_S_find 15 = .ok (.aload_n 0, 1) := by decide +kernel
theorem xj_S_find_16 : decode xb_S_find 16 = .ok (.iload_n 2, 1) := by decide +kernel
theorem xj_S_find_17 : decode xb_S_find 17 = .ok (.aload_n 1, 1) := by decide +kernel
theorem xj_S_find_18 : decode xb_S_find 18 = .ok (.getfield 22, 3) := by decide +kernel
theorem xj_S_find_21 : decode xb_S_find 21 = .ok (.invokevirtual 28, 3) := by decide +kernel
theorem xj_S_find_24 : decode xb_S_find 24 = .ok (.iinc 2 1, 3) := by decide +kernel
theorem xj_S_find_27 : decode xb_S_find 27 = .ok (.goto (-20), 3) := by decide +kernel
theorem xj_S_find_30 : decode xb_S_find 30 = .ok (.aload_n 0, 1) := by decide +kernel
theorem xj_S_find_31 : decode xb_S_find 31 = .ok (.iconst 1, 1) := by decide +kernel
theorem xj_S_find_32 : decode xb_S_find 32 = .ok (.putfield 32, 3) := by decide +kernel
theorem xj_S_find_35 : decode xb_S_find 35 = .ok (.aload_n 0, 1) := by decide +kernel
theorem xj_S_find_36 : decode xb_S_find 36 = .ok (.iconst 1, 1) := by decide +kernel
theorem xj_S_find_37 : decode xb_S_find 37 = .ok (.putfield 35, 3) := by decide +kernel
theorem xj_S_find_40 : decode xb_S_find 40 = .ok (.iconst 0, 1) := by decide +kernel
theorem xj_S_find_41 : decode xb_S_find 41 = .ok (.istore_n 2, 1) := by decide +kernel
theorem xj_S_find_42 : decode xb_S_find 42 = .ok (.iload_n 2, 1) := by decide +kernel
theorem xj_S_find_43 : decode xb_S_find 43 = .ok (.aload_n 1, 1) := by decide +kernel
theorem xj_S_find_44 : decode xb_S_find 44 = .ok (.getfield 22, 3) := by decide +kernel
theorem xj_S_find_47 : decode xb_S_find 47 = .ok (.if_icmp .ge 66, 3) := by decide +kernel
theorem xj_S_find_50 : decode xb_S_find 50 = .ok (.iload_n 2, 1) := by decide +kernel
theorem xj_S_find_51 : decode xb_S_find 51 = .ok (.bipush 12, 2) := by decide +kernel
theorem xj_S_find_53 : decode xb_S_find 53 = .ok (.imul, 1) := by decide +kernel
theorem xj_S_find_54 : decode xb_S_find 54 = .ok (.iload_n 2, 1) := by decide +kernel
theorem xj_S_find_55 : decode xb_S_find 55 = .ok (.iadd, 1) := by decide +kernel
theorem xj_S_find_56 : decode xb_S_find 56 = .ok (.istore_n 3, 1) := by decide +kernel
theorem xj_S_find_57 : decode xb_S_find 57 = .ok (.aload_n 0, 1) := by decide +kernel
theorem xj_S_find_58 : decode xb_S_find 58 = .ok (.getfield 9, 3) := by decide +kernel
theorem xj_S_find_61 : decode xb_S_find 61 = .ok (.iload_n 3, 1) := by decide +kernel
theorem xj_S_find_62 : decode xb_S_find 62 = .ok (.iaload, 1) := by decide +kernel
theorem xj_S_find_63 : decode xb_S_find 63 = .ok (.i2l, 1) := by decide +kernel
theorem xj_S_find_64 : decode xb_S_find 64 = .ok (.aload_n 0, 1) := by decide +kernel
theorem xj_S_find_65 : decode xb_S_find 65 = .ok (.getfield 15, 3) := by decide +kernel
theorem xj_S_find_68 : decode xb_S_find 68 = .ok (.iload_n 3, 1) := by decide +kernel
theorem xj_S_find_69 : decode xb_S_find 69 = .ok (.iaload, 1) := by decide +kernel
theorem xj_S_find_70 : decode xb_S_find 70 = .ok (.i2l, 1) := by decide +kernel
theorem xj_S_find_71 : decode xb_S_find 71 = .ok (.aload_n 0, 1) := by decide +kernel
theorem xj_S_find_72 : decode xb_S_find 72 = .ok (.getfield 32, 3) := by decide +kernel
theorem xj_S_find_75 : decode xb_S_find 75 = .ok (.i2l, 1) := by decide +kernel
theorem xj_S_find_76 : decode xb_S_find 76 = .ok (.aload_n 0, 1) := by decide +kernel
theorem xj_S_find_77 : decode xb_S_find 77 = .ok (.getfield 35, 3) := by decide +kernel
theorem xj_S_find_80 : decode xb_S_find 80 = .ok (.i2l, 1) := by decide +kernel
theorem xj_S_find_81 : decode xb_S_find 81 = .ok (.invokestatic 38, 3) := by decide +kernel
theorem xj_S_find_84 : decode xb_S_find 84 = .ok (.ifCond .eq 23, 3) := by decide +kernel
theorem xj_S_find_87 : decode xb_S_find 87 = .ok (.aload_n 0, 1) := by decide +kernel
theorem xj_S_find_88 : decode xb_S_find 88 = .ok (.aload_n 0, 1) := by decide +kernel
theorem xj_S_find_89 : decode xb_S_find 89 = .ok (.getfield 9, 3) := by decide +kernel
theorem xj_S_find_92 : decode xb_S_find 92 = .ok (.iload_n 3, 1) := by decide +kernel
theorem xj_S_find_93 : decode xb_S_find 93 = .ok (.iaload, 1) := by decide +kernel
theorem xj_S_find_94 : decode xb_S_find 94 = .ok (.putfield 32, 3) := by decide +kernel
theorem xj_S_find_97 : decode xb_S_find 97 = .ok (.aload_n 0, 1) := by decide +kernel
theorem xj_S_find_98 : decode xb_S_find 98 = .ok (.aload_n 0, 1) := by decide +kernel
theorem xj_S_find_99 : decode xb_S_find 99 = .ok (.getfield 15, 3) := by decide +kernel
theorem xj_S_find_102 : decode xb_S_find 102 = .ok (.iload_n 3, 1) := by decide +kernel
theorem xj_S_find_103 : decode xb_S_find 103 = .ok (.iaload, 1) := by decide +kernel
theorem xj_S_find_104 : decode xb_S_find 104 = .ok (.putfield 35, 3) := by decide +kernel
theorem xj_S_find_107 : decode xb_S_find 107 = .ok (.iinc 2 1, 3) := by decide +kernel
theorem xj_S_find_110 : decode xb_S_find 110 = .ok (.goto (-68), 3) := by decide +kernel
theorem xj_S_find_113 : decode xb_S_find 113 = .ok (.aload_n 0, 1) := by decide +kernel
theorem xj_S_find_114 : decode xb_S_find 114 = .ok (.invokevirtual 42, 3) := by decide +kernel
theorem xj_S_find_117 : decode xb_S_find 117 = .ok (.return_, 1) := by decide +kernel
theorem xj_S_readSteps_0 : decode xb_S_readSteps 0 = .ok (.iconst 0, 1) := by decide +kernel
theorem xj_S_readSteps_1 : decode xb_S_readSteps 1 = .ok (.istore_n 2, 1) := by decide +kernel
theorem xj_S_readSteps_2 : decode xb_S_readSteps 2 = .ok (.iload_n 2, 1) := by decide +kernel
theorem xj_S_readSteps_3 : decode xb_S_readSteps 3 = .ok (.aload_n 1, 1) := by decide +kernel
theorem xj_S_readSteps_4 : decode xb_S_readSteps 4 = .ok (.getfield 22, 3) := by decide +kernel
theorem xj_S_readSteps_7 : decode xb_S_readSteps 7 = .ok (.if_icmp .ge 101, 3) := by decide +kernel
theorem xj_S_readSteps_10 : decode xb_S_readSteps 10 = .ok (.aload_n 1, 1) := by decide +kernel
theorem xj_S_readSteps_11 : decode xb_S_readSteps 11 = .ok (.iload_n 2, 1) := by decide +kernel
theorem xj_S_readSteps_12 : decode xb_S_readSteps 12 = .ok (.iload_n 2, 1) := by decide +kernel
theorem xj_S_readSteps_13 : decode xb_S_readSteps 13 = .ok (.invokevirtual 45, 3) := by decide +kernel
theorem xj_S_readSteps_16 : decode xb_S_readSteps 16 = .ok (.istore_n 3, 1) := by decide +kernel
theorem xj_S_readSteps_17 : decode xb_S_readSteps 17 = .ok (.iconst 0, 1) := by decide +kernel
theorem xj_S_readSteps_18 : decode xb_S_readSteps 18 = .ok (.istore 4, 2) := by decide +kernel
theorem xj_S_readSteps_20 : decode xb_S_readSteps 20 = .ok (.iload 4, 2) := by decide +kernel
theorem xj_S_readSteps_22 : decode xb_S_readSteps 22 = .ok (.aload_n 1, 1) := by decide +kernel
theorem xj_S_readSteps_23 : decode xb_S_readSteps 23 = .ok (.getfield 22, 3) := by decide +kernel
theorem xj_S_readSteps_26 : decode xb_S_readSteps 26 = .ok (.if_icmp .ge 76, 3) := by decide +kernel
theorem xj_S_readSteps_29 : decode xb_S_readSteps 29 = .ok (.iload_n 2, 1) := by decide +kernel
theorem xj_S_readSteps_30 : decode xb_S_readSteps 30 = .ok (.iload 4, 2) := by decide +kernel
theorem xj_S_readSteps_32 : decode xb_S_readSteps 32 = .ok (.if_icmp .eq 11, 3) := by decide +kernel
theorem xj_S_readSteps_35 : decode xb_S_readSteps 35 = .ok (.iload_n 3, 1) := by decide +kernel
theorem xj_S_readSteps_36 : decode xb_S_readSteps 36 = .ok (.ifCond .le 7, 3) := by decide +kernel
theorem xj_S_readSteps_39 : decode xb_S_readSteps 39 = .ok (.iconst 1, 1) := by decide +kernel
theorem xj_S_readSteps_40 : decode xb_S_readSteps 40 = .ok (.goto 4, 3) := by decide +kernel
theorem xj_S_readSteps_43 : decode xb_S_readSteps 43 = .ok (.iconst 0, 1) := by decide +kernel
theorem xj_S_readSteps_44 : decode xb_S_readSteps 44 = .ok (.istore 5, 2) := by decide +kernel
theorem xj_S_readSteps_46 : decode xb_S_readSteps 46 = .ok (.aload_n 0, 1) := by decide +kernel
theorem xj_S_readSteps_47 : decode xb_S_readSteps 47 = .ok (.getfield 9, 3) := by decide +kernel
theorem xj_S_readSteps_50 : decode xb_S_readSteps 50 = .ok (.iload_n 2, 1) := by decide +kernel
theorem xj_S_readSteps_51 : decode xb_S_readSteps 51 = .ok (.bipush 12, 2) := by decide +kernel
theorem xj_S_readSteps_53 : decode xb_S_readSteps 53 = .ok (.imul, 1) := by decide +kernel
theorem xj_S_readSteps_54 : decode xb_S_readSteps 54 = .ok (.iload 4, 2) := by decide +kernel
theorem xj_S_readSteps_56 : decode xb_S_readSteps 56 = .ok (.iadd, 1) := by decide +kernel
theorem xj_S_readSteps_57 : decode xb_S_readSteps 57 = .ok (.iload 5, 2) := by decide +kernel
theorem xj_S_readSteps_59 : decode xb_S_readSteps 59 = .ok (.ifCond .eq 13, 3) := by decide +kernel
theorem xj_S_readSteps_62 : decode xb_S_readSteps 62 = .ok (.aload_n 1, 1) := by decide +kernel
theorem xj_S_readSteps_63 : decode xb_S_readSteps 63 = .ok (.iload_n 2, 1) := by decide +kernel
theorem xj_S_readSteps_64 : decode xb_S_readSteps 64 = .ok (.iload 4, 2) := by decide +kernel
theorem xj_S_readSteps_66 : decode xb_S_readSteps 66 = .ok (.invokevirtual 45, 3) := by decide +kernel
theorem xj_S_readSteps_69 : decode xb_S_readSteps 69 = .ok (.goto 4, 3) := by decide +kernel
theorem xj_S_readSteps_72 : decode xb_S_readSteps 72 = .ok (.iconst 1, 1) := by decide +kernel
theorem xj_S_readSteps_73 : decode xb_S_readSteps 73 = .ok (.iastore, 1) := by decide +kernel
theorem xj_S_readSteps_74 : decode xb_S_readSteps 74 = .ok (.aload_n 0, 1) := by decide +kernel
theorem xj_S_readSteps_75 : decode xb_S_readSteps 75 = .ok (.getfield 15, 3) := by decide +kernel
theorem xj_S_readSteps_78 : decode xb_S_readSteps 78 = .ok (.iload_n 2, 1) := by decide +kernel
theorem xj_S_readSteps_79 : decode xb_S_readSteps 79 = .ok (.bipush 12, 2) := by decide +kernel
theorem xj_S_readSteps_81 : decode xb_S_readSteps 81 = .ok (.imul, 1) := by decide +kernel
theorem xj_S_readSteps_82 : decode xb_S_readSteps 82 = .ok (.iload 4, 2) := by decide +kernel
theorem xj_S_readSteps_84 : decode xb_S_readSteps 84 = .ok (.iadd, 1) := by decide +kernel
theorem xj_S_readSteps_85 : decode xb_S_readSteps 85 = .ok (.iload 5, 2) := by decide +kernel
theorem xj_S_readSteps_87 : decode xb_S_readSteps 87 = .ok (.ifCond .eq 7, 3) := by decide +kernel
theorem xj_S_readSteps_90 : decode xb_S_readSteps 90 = .ok (.iload_n 3, 1) := by decide +kernel
theorem xj_S_readSteps_91 : decode xb_S_readSteps 91 = .ok (.goto 4, 3) := by decide +kernel
theorem xj_S_readSteps_94 : decode xb_S_readSteps 94 = .ok (.iconst 0, 1) := by decide +kernel
theorem xj_S_readSteps_95 : decode xb_S_readSteps 95 = .ok (.iastore, 1) := by decide +kernel
theorem xj_S_readSteps_96 : decode xb_S_readSteps 96 = .ok (.iinc 4 1, 3) := by decide +kernel
theorem xj_S_readSteps_99 : decode xb_S_readSteps 99 = .ok (.goto (-79), 3) := by decide +kernel
theorem xj_S_readSteps_102 : decode xb_S_readSteps 102 = .ok (.iinc 2 1, 3) := by decide +kernel
theorem xj_S_readSteps_105 : decode xb_S_readSteps 105 = .ok (.goto (-103), 3) := by decide +kernel
theorem xj_S_readSteps_108 : decode xb_S_readSteps 108 = .ok (.return_, 1) := by decide +kernel

/-! decode rows -/
theorem xj_M_cost_0 : decode xb_M_cost 0 = .ok (.aload_n 0, 1) := by decide +kernel
theorem xj_M_cost_1 : decode xb_M_cost 1 = .ok (.aload_n 0, 1) := by decide +kernel
theorem xj_M_cost_2 : decode xb_M_cost 2 = .ok (.iload_n 1, 1) := by decide +kernel
theorem xj_M_cost_3 : decode xb_M_cost 3 = .ok (.invokevirtual 58, 3) := by decide +kernel
theorem xj_M_cost_6 : decode xb_M_cost 6 = .ok (.ifCond .eq 15, 3) := by decide +kernel
theorem xj_M_cost_9 : decode xb_M_cost 9 = .ok (.aload_n 0, 1) := by decide +kernel
theorem xj_M_cost_10 : decode xb_M_cost 10 = .ok (.iload_n 2, 1) := by decide +kernel
theorem xj_M_cost_11 : decode xb_M_cost 11 = .ok (.invokevirtual 58, 3) := by decide +kernel
theorem xj_M_cost_14 : decode xb_M_cost 14 = .ok (.ifCond .eq 7, 3) := by decide +kernel
theorem xj_M_cost_17 : decode xb_M_cost 17 = .ok (.iconst 0, 1) := by decide +kernel
theorem xj_M_cost_18 : decode xb_M_cost 18 = .ok (.goto 4, 3) := by decide +kernel
theorem xj_M_cost_21 : decode xb_M_cost 21 = .ok (.iconst 1, 1) := by decide +kernel
theorem xj_M_cost_22 : decode xb_M_cost 22 = .ok (.putfield 48, 3) := by decide +kernel
theorem xj_M_cost_25 : decode xb_M_cost 25 = .ok (.aload_n 0, 1) := by decide +kernel
theorem xj_M_cost_26 : decode xb_M_cost 26 = .ok (.getfield 48, 3) := by decide +kernel
theorem xj_M_cost_29 : decode xb_M_cost 29 = .ok (.ifCond .le 7, 3) := by decide +kernel
theorem xj_M_cost_32 : decode xb_M_cost 32 = .ok (.iconst 0, 1) := by decide +kernel
theorem xj_M_cost_33 : decode xb_M_cost 33 = .ok (.goto 9, 3) := by decide +kernel
theorem xj_M_cost_36 : decode xb_M_cost 36 = .ok (.aload_n 0, 1) := by decide +kernel
theorem xj_M_cost_37 : decode xb_M_cost 37 = .ok (.iload_n 1, 1) := by decide +kernel
theorem xj_M_cost_38 : decode xb_M_cost 38 = .ok (.iload_n 2, 1) := by decide +kernel
theorem xj_M_cost_39 : decode xb_M_cost 39 = .ok (.invokevirtual 62, 3) := by decide +kernel
theorem xj_M_cost_42 : decode xb_M_cost 42 = .ok (.ireturn, 1) := by decide +kernel
theorem xj_M_costs_0 : decode xb_M_costs 0 = .ok (.iconst 0, 1) := by decide +kernel
theorem xj_M_costs_1 : decode xb_M_costs 1 = .ok (.istore_n 3, 1) := by decide +kernel
theorem xj_M_costs_2 : decode xb_M_costs 2 = .ok (.iconst 0, 1) := by decide +kernel
theorem xj_M_costs_3 : decode xb_M_costs 3 = .ok (.istore 4, 2) := by decide +kernel
theorem xj_M_costs_5 : decode xb_M_costs 5 = .ok (.iload 4, 2) := by decide +kernel
theorem xj_M_costs_7 : decode xb_M_costs 7 = .ok (.aload_n 0, 1) := by decide +kernel
theorem xj_M_costs_8 : decode xb_M_costs 8 = .ok (.getfield 7, 3) := by decide +kernel
theorem xj_M_costs_11 : decode xb_M_costs 11 = .ok (.if_icmp .ge 37, 3) := by decide +kernel
theorem xj_M_costs_14 : decode xb_M_costs 14 = .ok (.iload_n 3, 1) := by decide +kernel
theorem xj_M_costs_15 : decode xb_M_costs 15 = .ok (.aload_n 0, 1) := by decide +kernel
theorem xj_M_costs_16 : decode xb_M_costs 16 = .ok (.getfield 13, 3) := by decide +kernel
theorem xj_M_costs_19 : decode xb_M_costs 19 = .ok (.bipush 6, 2) := by decide +kernel
theorem xj_M_costs_21 : decode xb_M_costs 21 = .ok (.iload_n 1, 1) := by decide +kernel
theorem xj_M_costs_22 : decode xb_M_costs 22 = .ok (.imul, 1) := by decide +kernel
theorem xj_M_costs_23 : decode xb_M_costs 23 = .ok (.iload 4, 2) := by decide +kernel
theorem xj_M_costs_25 : decode xb_M_costs 25 = .ok (.iadd, 1) := by decide +kernel
theorem xj_M_costs_26 : decode xb_M_costs 26 = .ok (.iaload, 1) := by decide +kernel
theorem xj_M_costs_27 : decode xb_M_costs 27 = .ok (.aload_n 0, 1) := by decide +kernel
theorem xj_M_costs_28 : decode xb_M_costs 28 = .ok (.getfield 17, 3) := by decide +kernel
theorem xj_M_costs_31 : decode xb_M_costs 31 = .ok (.bipush 6, 2) := by decide +kernel
theorem xj_M_costs_33 : decode xb_M_costs 33 = .ok (.iload_n 2, 1) := by decide +kernel
theorem xj_M_costs_34 : decode xb_M_costs 34 = .ok (.imul, 1) := by decide +kernel
theorem xj_M_costs_35 : decode xb_M_costs 35 = .ok (.iload 4, 2) := by decide +kernel
theorem xj_M_costs_37 : decode xb_M_costs 37 = .ok (.iadd, 1) := by decide +kernel
theorem xj_M_costs_38 : decode xb_M_costs 38 = .ok (.iaload, 1) := by decide +kernel
theorem xj_M_costs_39 : decode xb_M_costs 39 = .ok (.imul, 1) := by decide +kernel
theorem xj_M_costs_40 : decode xb_M_costs 40 = .ok (.iadd, 1) := by decide +kernel
theorem xj_M_costs_41 : decode xb_M_costs 41 = .ok (.istore_n 3, 1) := by decide +kernel
theorem xj_M_costs_42 : decode xb_M_costs 42 = .ok (.iinc 4 1, 3) := by decide +kernel
theorem xj_M_costs_45 : decode xb_M_costs 45 = .ok (.goto (-40), 3) := by decide +kernel
theorem xj_M_costs_48 : decode xb_M_costs 48 = .ok (.iload_n 3, 1) := by decide +kernel
theorem xj_M_costs_49 : decode xb_M_costs 49 = .ok (.ireturn, 1) := by decide +kernel
theorem xj_M_shown_0 : decode xb_M_shown 0 = .ok (.aload_n 0, 1) := by decide +kernel
theorem xj_M_shown_1 : decode xb_M_shown 1 = .ok (.aload_n 0, 1) := by decide +kernel
theorem xj_M_shown_2 : decode xb_M_shown 2 = .ok (.iload_n 1, 1) := by decide +kernel
theorem xj_M_shown_3 : decode xb_M_shown 3 = .ok (.invokevirtual 58, 3) := by decide +kernel
theorem xj_M_shown_6 : decode xb_M_shown 6 = .ok (.ifCond .eq 15, 3) := by decide +kernel
theorem xj_M_shown_9 : decode xb_M_shown 9 = .ok (.aload_n 0, 1) := by decide +kernel
theorem xj_M_shown_10 : decode xb_M_shown 10 = .ok (.iload_n 2, 1) := by decide +kernel
theorem xj_M_shown_11 : decode xb_M_shown 11 = .ok (.invokevirtual 58, 3) := by decide +kernel
theorem xj_M_shown_14 : decode xb_M_shown 14 = .ok (.ifCond .eq 7, 3) := by decide +kernel
theorem xj_M_shown_17 : decode xb_M_shown 17 = .ok (.iconst 0, 1) := by decide +kernel
theorem xj_M_shown_18 : decode xb_M_shown 18 = .ok (.goto 4, 3) := by decide +kernel
theorem xj_M_shown_21 : decode xb_M_shown 21 = .ok (.iconst 1, 1) := by decide +kernel
theorem xj_M_shown_22 : decode xb_M_shown 22 = .ok (.putfield 48, 3) := by decide +kernel
theorem xj_M_shown_25 : decode xb_M_shown 25 = .ok (.aload_n 0, 1) := by decide +kernel
theorem xj_M_shown_26 : decode xb_M_shown 26 = .ok (.getfield 48, 3) := by decide +kernel
theorem xj_M_shown_29 : decode xb_M_shown 29 = .ok (.ifCond .le 5, 3) := by decide +kernel
theorem xj_M_shown_32 : decode xb_M_shown 32 = .ok (.iconst 0, 1) := by decide +kernel
theorem xj_M_shown_33 : decode xb_M_shown 33 = .ok (.ireturn, 1) := by decide +kernel
theorem xj_M_shown_34 : decode xb_M_shown 34 = .ok (.aload_n 0, 1) := by decide +kernel
theorem xj_M_shown_35 : decode xb_M_shown 35 = .ok (.iload_n 1, 1) := by decide +kernel
theorem xj_M_shown_36 : decode xb_M_shown 36 = .ok (.iload_n 2, 1) := by decide +kernel
theorem xj_M_shown_37 : decode xb_M_shown 37 = .ok (.invokevirtual 62, 3) := by decide +kernel
theorem xj_M_shown_40 : decode xb_M_shown 40 = .ok (.aload_n 0, 1) := by decide +kernel
theorem xj_M_shown_41 : decode xb_M_shown 41 = .ok (.iload_n 1, 1) := by decide +kernel
theorem xj_M_shown_42 : decode xb_M_shown 42 = .ok (.iload_n 1, 1) := by decide +kernel
theorem xj_M_shown_43 : decode xb_M_shown 43 = .ok (.invokevirtual 62, 3) := by decide +kernel
theorem xj_M_shown_46 : decode xb_M_shown 46 = .ok (.if_icmp .ge 7, 3) := by decide +kernel
theorem xj_M_shown_49 : decode xb_M_shown 49 = .ok (.iconst 2, 1) := by decide +kernel
theorem xj_M_shown_50 : decode xb_M_shown 50 = .ok (.goto 23, 3) := by decide +kernel
theorem xj_M_shown_53 : decode xb_M_shown 53 = .ok (.aload_n 0, 1) := by decide +kernel
theorem xj_M_shown_54 : decode xb_M_shown 54 = .ok (.iload_n 1, 1) := by decide +kernel
theorem xj_M_shown_55 : decode xb_M_shown 55 = .ok (.iload_n 2, 1) := by decide +kernel
theorem xj_M_shown_56 : decode xb_M_shown 56 = .ok (.invokevirtual 62, 3) := by decide +kernel
theorem xj_M_shown_59 : decode xb_M_shown 59 = .ok (.aload_n 0, 1) := by decide +kernel
theorem xj_M_shown_60 : decode xb_M_shown 60 = .ok (.iload_n 1, 1) := by decide +kernel
theorem xj_M_shown_61 : decode xb_M_shown 61 = .ok (.iload_n 1, 1) := by decide +kernel
theorem xj_M_shown_62 : decode xb_M_shown 62 = .ok (.invokevirtual 62, 3) := by decide +kernel
theorem xj_M_shown_65 : decode xb_M_shown 65 = .ok (.if_icmp .ne 7, 3) := by decide +kernel
theorem xj_M_shown_68 : decode xb_M_shown 68 = .ok (.iconst 1, 1) := by decide +kernel
theorem xj_M_shown_69 : decode xb_M_shown 69 = .ok (.goto 4, 3) := by decide +kernel
theorem xj_M_shown_72 : decode xb_M_shown 72 = .ok (.iconst 0, 1) := by decide +kernel
theorem xj_M_shown_73 : decode xb_M_shown 73 = .ok (.ireturn, 1) := by decide +kernel
theorem xj_M_chain_0 : decode xb_M_chain 0 = .ok (.aload_n 0, 1) := by decide +kernel
theorem xj_M_chain_1 : decode xb_M_chain 1 = .ok (.aload_n 0, 1) := by decide +kernel
theorem xj_M_chain_2 : decode xb_M_chain 2 = .ok (.iload_n 1, 1) := by decide +kernel
theorem xj_M_chain_3 : decode xb_M_chain 3 = .ok (.invokevirtual 58, 3) := by decide +kernel
theorem xj_M_chain_6 : decode xb_M_chain 6 = .ok (.ifCond .eq 15, 3) := by decide +kernel
theorem xj_M_chain_9 : decode xb_M_chain 9 = .ok (.aload_n 0, 1) := by decide +kernel
theorem xj_M_chain_10 : decode xb_M_chain 10 = .ok (.iload_n 2, 1) := by decide +kernel
theorem xj_M_chain_11 : decode xb_M_chain 11 = .ok (.invokevirtual 58, 3) := by decide +kernel
theorem xj_M_chain_14 : decode xb_M_chain 14 = .ok (.ifCond .eq 7, 3) := by decide +kernel
theorem xj_M_chain_17 : decode xb_M_chain 17 = .ok (.iconst 0, 1) := by decide +kernel
theorem xj_M_chain_18 : decode xb_M_chain 18 = .ok (.goto 4, 3) := by decide +kernel
theorem xj_M_chain_21 : decode xb_M_chain 21 = .ok (.iconst 1, 1) := by decide +kernel
theorem xj_M_chain_22 : decode xb_M_chain 22 = .ok (.putfield 48, 3) := by decide +kernel
theorem xj_M_chain_25 : decode xb_M_chain 25 = .ok (.aload_n 0, 1) := by decide +kernel
theorem xj_M_chain_26 : decode xb_M_chain 26 = .ok (.getfield 48, 3) := by decide +kernel
theorem xj_M_chain_29 : decode xb_M_chain 29 = .ok (.ifCond .le 5, 3) := by decide +kernel
theorem xj_M_chain_32 : decode xb_M_chain 32 = .ok (.iconst 0, 1) := by decide +kernel
theorem xj_M_chain_33 : decode xb_M_chain 33 = .ok (.ireturn, 1) := by decide +kernel
theorem xj_M_chain_34 : decode xb_M_chain 34 = .ok (.aload_n 0, 1) := by decide +kernel
theorem xj_M_chain_35 : decode xb_M_chain 35 = .ok (.invokevirtual 78, 3) := by decide +kernel
theorem xj_M_chain_38 : decode xb_M_chain 38 = .ok (.aload_n 0, 1) := by decide +kernel
theorem xj_M_chain_39 : decode xb_M_chain 39 = .ok (.getfield 33, 3) := by decide +kernel
theorem xj_M_chain_42 : decode xb_M_chain 42 = .ok (.bipush 13, 2) := by decide +kernel
theorem xj_M_chain_44 : decode xb_M_chain 44 = .ok (.iload_n 1, 1) := by decide +kernel
theorem xj_M_chain_45 : decode xb_M_chain 45 = .ok (.imul, 1) := by decide +kernel
theorem xj_M_chain_46 : decode xb_M_chain 46 = .ok (.iload_n 2, 1) := by decide +kernel
theorem xj_M_chain_47 : decode xb_M_chain 47 = .ok (.iadd, 1) := by decide +kernel
theorem xj_M_chain_48 : decode xb_M_chain 48 = .ok (.baload, 1) := by decide +kernel
theorem xj_M_chain_49 : decode xb_M_chain 49 = .ok (.ifCond .eq 17, 3) := by decide +kernel
theorem xj_M_chain_52 : decode xb_M_chain 52 = .ok (.aload_n 0, 1) := by decide +kernel
theorem xj_M_chain_53 : decode xb_M_chain 53 = .ok (.getfield 36, 3) := by decide +kernel
theorem xj_M_chain_56 : decode xb_M_chain 56 = .ok (.bipush 13, 2) := by decide +kernel
theorem xj_M_chain_58 : decode xb_M_chain 58 = .ok (.iload_n 1, 1) := by decide +kernel
theorem xj_M_chain_59 : decode xb_M_chain 59 = .ok (.imul, 1) := by decide +kernel
theorem xj_M_chain_60 : decode xb_M_chain 60 = .ok (.iload_n 2, 1) := by decide +kernel
theorem xj_M_chain_61 : decode xb_M_chain 61 = .ok (.iadd, 1) := by decide +kernel
theorem xj_M_chain_62 : decode xb_M_chain 62 = .ok (.iaload, 1) := by decide +kernel
theorem xj_M_chain_63 : decode xb_M_chain 63 = .ok (.goto 4, 3) := by decide +kernel
theorem xj_M_chain_66 : decode xb_M_chain 66 = .ok (.iconst (-1), 1) := by decide +kernel
theorem xj_M_chain_67 : decode xb_M_chain 67 = .ok (.ireturn, 1) := by decide +kernel
theorem xj_M_look_0 : decode xb_M_look 0 = .ok (.aload_n 0, 1) := by decide +kernel
theorem xj_M_look_1 : decode xb_M_look 1 = .ok (.aload_n 0, 1) := by decide +kernel
theorem xj_M_look_2 : decode xb_M_look 2 = .ok (.getfield 51, 3) := by decide +kernel
theorem xj_M_look_5 : decode xb_M_look 5 = .ok (.lconst 1, 1) := by decide +kernel
theorem xj_M_look_6 : decode xb_M_look 6 = .ok (.lconst 1, 1) := by decide +kernel
theorem xj_M_look_7 : decode xb_M_look 7 = .ok (.invokevirtual 74, 3) := by decide +kernel
theorem xj_M_look_10 : decode xb_M_look 10 = .ok (.aload_n 0, 1) := by decide +kernel
theorem xj_M_look_11 : decode xb_M_look 11 = .ok (.aload_n 0, 1) := by decide +kernel
theorem xj_M_look_12 : decode xb_M_look 12 = .ok (.getfield 51, 3) := by decide +kernel
theorem xj_M_look_15 : decode xb_M_look 15 = .ok (.invokevirtual 70, 3) := by decide +kernel
theorem xj_M_look_18 : decode xb_M_look 18 = .ok (.return_, 1) := by decide +kernel
theorem xj_M_relate_0 : decode xb_M_relate 0 = .ok (.iconst 0, 1) := by decide +kernel
theorem xj_M_relate_1 : decode xb_M_relate 1 = .ok (.istore 6, 2) := by decide +kernel
theorem xj_M_relate_3 : decode xb_M_relate 3 = .ok (.iload 6, 2) := by decide +kernel
theorem xj_M_relate_5 : decode xb_M_relate 5 = .ok (.iload_n 1, 1) := by decide +kernel
theorem xj_M_relate_6 : decode xb_M_relate 6 = .ok (.if_icmp .ge 125, 3) := by decide +kernel
theorem xj_M_relate_9 : decode xb_M_relate 9 = .ok (.aload_n 0, 1) := by decide +kernel
theorem xj_M_relate_10 : decode xb_M_relate 10 = .ok (.getfield 39, 3) := by decide +kernel
theorem xj_M_relate_13 : decode xb_M_relate 13 = .ok (.iload 6, 2) := by decide +kernel
theorem xj_M_relate_15 : decode xb_M_relate 15 = .ok (.iconst 1, 1) := by decide +kernel
theorem xj_M_relate_16 : decode xb_M_relate 16 = .ok (.bastore, 1) := by decide +kernel
theorem xj_M_relate_17 : decode xb_M_relate 17 = .ok (.iconst 0, 1) := by decide +kernel
theorem xj_M_relate_18 : decode xb_M_relate 18 = .ok (.istore 7, 2) := by decide +kernel
theorem xj_M_relate_20 : decode xb_M_relate 20 = .ok (.iload 7, 2) := by decide +kernel
theorem xj_M_relate_22 : decode xb_M_relate 22 = .ok (.iload_n 1, 1) := by decide +kernel
theorem xj_M_relate_23 : decode xb_M_relate 23 = .ok (.if_icmp .ge 102, 3) := by decide +kernel
theorem xj_M_relate_26 : decode xb_M_relate 26 = .ok (.lload_n 2, 1) := by decide +kernel
theorem xj_M_relate_27 : decode xb_M_relate 27 = .ok (.aload_n 0, 1) := by decide +kernel
theorem xj_M_relate_28 : decode xb_M_relate 28 = .ok (.iload 6, 2) := by decide +kernel
theorem xj_M_relate_30 : decode xb_M_relate 30 = .ok (.iload 6, 2) := by decide +kernel
theorem xj_M_relate_32 : decode xb_M_relate 32 = .ok (.invokevirtual 62, 3) := by decide +kernel
theorem xj_M_relate_35 : decode xb_M_relate 35 = .ok (.i2l, 1) := by decide +kernel
theorem xj_M_relate_36 : decode xb_M_relate 36 = .ok (.lmul, 1) := by decide +kernel
theorem xj_M_relate_37 : decode xb_M_relate 37 = .ok (.lstore 8, 2) := by decide +kernel
theorem xj_M_relate_39 : decode xb_M_relate 39 = .ok (.lload 4, 2) := by decide +kernel
theorem xj_M_relate_41 : decode xb_M_relate 41 = .ok (.aload_n 0, 1) := by decide +kernel
theorem xj_M_relate_42 : decode xb_M_relate 42 = .ok (.iload 6, 2) := by decide +kernel
theorem xj_M_relate_44 : decode xb_M_relate 44 = .ok (.iload 7, 2) := by decide +kernel
theorem xj_M_relate_46 : decode xb_M_relate 46 = .ok (.invokevirtual 62, 3) := by decide +kernel
theorem xj_M_relate_49 : decode xb_M_relate 49 = .ok (.i2l, 1) := by decide +kernel
theorem xj_M_relate_50 : decode xb_M_relate 50 = .ok (.lmul, 1) := by decide +kernel
theorem xj_M_relate_51 : decode xb_M_relate 51 = .ok (.lstore 10, 2) := by decide +kernel
theorem xj_M_relate_53 : decode xb_M_relate 53 = .ok (.aload_n 0, 1) := by decide +kernel
theorem xj_M_relate_54 : decode xb_M_relate 54 = .ok (.getfield 26, 3) := by decide +kernel
theorem xj_M_relate_57 : decode xb_M_relate 57 = .ok (.bipush 13, 2) := by decide +kernel
theorem xj_M_relate_59 : decode xb_M_relate 59 = .ok (.iload 6, 2) := by decide +kernel
theorem xj_M_relate_61 : decode xb_M_relate 61 = .ok (.imul, 1) := by decide +kernel
theorem xj_M_relate_62 : decode xb_M_relate 62 = .ok (.iload 7, 2) := by decide +kernel
theorem xj_M_relate_64 : decode xb_M_relate 64 = .ok (.iadd, 1) := by decide +kernel
theorem xj_M_relate_65 : decode xb_M_relate 65 = .ok (.iload 6, 2) := by decide +kernel
theorem xj_M_relate_67 : decode xb_M_relate 67 = .ok (.iload 7, 2) := by decide +kernel
theorem xj_M_relate_69 : decode xb_M_relate 69 = .ok (.if_icmp .eq 11, 3) := by decide +kernel
theorem xj_M_relate_72 : decode xb_M_relate 72 = .ok (.lload 10, 2) := by decide +kernel
theorem xj_M_relate_74 : decode xb_M_relate 74 = .ok (.lload 8, 2) := by decide +kernel
theorem xj_M_relate_76 : decode xb_M_relate 76 = .ok (.lcmp, 1) := by decide +kernel
theorem xj_M_relate_77 : decode xb_M_relate 77 = .ok (.ifCond .gt 7, 3) := by decide +kernel
theorem xj_M_relate_80 : decode xb_M_relate 80 = .ok (.iconst 1, 1) := by decide +kernel
theorem xj_M_relate_81 : decode xb_M_relate 81 = .ok (.goto 4, 3) := by decide +kernel
theorem xj_M_relate_84 : decode xb_M_relate 84 = .ok (.iconst 0, 1) := by decide +kernel
theorem xj_M_relate_85 : decode xb_M_relate 85 = .ok (.bastore, 1) := by decide +kernel
theorem xj_M_relate_86 : decode xb_M_relate 86 = .ok (.aload_n 0, 1) := by decide +kernel
theorem xj_M_relate_87 : decode xb_M_relate 87 = .ok (.getfield 30, 3) := by decide +kernel
theorem xj_M_relate_90 : decode xb_M_relate 90 = .ok (.bipush 13, 2) := by decide +kernel
theorem xj_M_relate_92 : decode xb_M_relate 92 = .ok (.iload 6, 2) := by decide +kernel
theorem xj_M_relate_94 : decode xb_M_relate 94 = .ok (.imul, 1) := by decide +kernel
theorem xj_M_relate_95 : decode xb_M_relate 95 = .ok (.iload 7, 2) := by decide +kernel
theorem xj_M_relate_97 : decode xb_M_relate 97 = .ok (.iadd, 1) := by decide +kernel
theorem xj_M_relate_98 : decode xb_M_relate 98 = .ok (.iload 6, 2) := by decide +kernel
theorem xj_M_relate_100 : decode xb_M_relate 100 = .ok (.iload 7, 2) := by decide +kernel
theorem xj_M_relate_102 : decode xb_M_relate 102 = .ok (.if_icmp .eq 15, 3) := by decide +kernel
theorem xj_M_relate_105 : decode xb_M_relate 105 = .ok (.lload 10, 2) := by decide +kernel
theorem xj_M_relate_107 : decode xb_M_relate 107 = .ok (.lload 8, 2) := by decide +kernel
theorem xj_M_relate_109 : decode xb_M_relate 109 = .ok (.lcmp, 1) := by decide +kernel
theorem xj_M_relate_110 : decode xb_M_relate 110 = .ok (.ifCond .ge 7, 3) := by decide +kernel
theorem xj_M_relate_113 : decode xb_M_relate 113 = .ok (.iconst 1, 1) := by decide +kernel
theorem xj_M_relate_114 : decode xb_M_relate 114 = .ok (.goto 4, 3) := by decide +kernel
theorem xj_M_relate_117 : decode xb_M_relate 117 = .ok (.iconst 0, 1) := by decide +kernel
theorem xj_M_relate_118 : decode xb_M_relate 118 = .ok (.bastore, 1) := by decide +kernel
theorem xj_M_relate_119 : decode xb_M_relate 119 = .ok (.iinc 7 1, 3) := by decide +kernel
theorem xj_M_relate_122 : decode xb_M_relate 122 = .ok (.goto (-102), 3) := by decide +kernel
theorem xj_M_relate_125 : decode xb_M_relate 125 = .ok (.iinc 6 1, 3) := by decide +kernel
theorem xj_M_relate_128 : decode xb_M_relate 128 = .ok (.goto (-125), 3) := by decide +kernel
theorem xj_M_relate_131 : decode xb_M_relate 131 = .ok (.return_, 1) := by decide +kernel
theorem xj_M_link_0 : decode xb_M_link 0 = .ok (.iconst 0, 1) := by decide +kernel
theorem xj_M_link_1 : decode xb_M_link 1 = .ok (.istore_n 2, 1) := by decide +kernel
theorem xj_M_link_2 : decode xb_M_link 2 = .ok (.iload_n 2, 1) := by decide +kernel
theorem xj_M_link_3 : decode xb_M_link 3 = .ok (.sipush 169, 3) := by decide +kernel
theorem xj_M_link_6 : decode xb_M_link 6 = .ok (.if_icmp .ge 23, 3) := by decide +kernel
theorem xj_M_link_9 : decode xb_M_link 9 = .ok (.aload_n 0, 1) := by decide +kernel
theorem xj_M_link_10 : decode xb_M_link 10 = .ok (.getfield 33, 3) := by decide +kernel
theorem xj_M_link_13 : decode xb_M_link 13 = .ok (.iload_n 2, 1) := by decide +kernel
theorem xj_M_link_14 : decode xb_M_link 14 = .ok (.iconst 0, 1) := by decide +kernel
theorem xj_M_link_15 : decode xb_M_link 15 = .ok (.bastore, 1) := by decide +kernel
theorem xj_M_link_16 : decode xb_M_link 16 = .ok (.aload_n 0, 1) := by decide +kernel
theorem xj_M_link_17 : decode xb_M_link 17 = .ok (.getfield 36, 3) := by decide +kernel
theorem xj_M_link_20 : decode xb_M_link 20 = .ok (.iload_n 2, 1) := by decide +kernel
theorem xj_M_link_21 : decode xb_M_link 21 = .ok (.iconst 0, 1) := by decide +kernel
theorem xj_M_link_22 : decode xb_M_link 22 = .ok (.iastore, 1) := by decide +kernel
theorem xj_M_link_23 : decode xb_M_link 23 = .ok (.iinc 2 1, 3) := by decide +kernel
theorem xj_M_link_26 : decode xb_M_link 26 = .ok (.goto (-24), 3) := by decide +kernel
theorem xj_M_link_29 : decode xb_M_link 29 = .ok (.iconst 0, 1) := by decide +kernel
theorem xj_M_link_30 : decode xb_M_link 30 = .ok (.istore_n 2, 1) := by decide +kernel
theorem xj_M_link_31 : decode xb_M_link 31 = .ok (.iload_n 2, 1) := by decide +kernel
theorem xj_M_link_32 : decode xb_M_link 32 = .ok (.iload_n 1, 1) := by decide +kernel
theorem xj_M_link_33 : decode xb_M_link 33 = .ok (.if_icmp .ge 95, 3) := by decide +kernel
theorem xj_M_link_36 : decode xb_M_link 36 = .ok (.iconst 0, 1) := by decide +kernel
theorem xj_M_link_37 : decode xb_M_link 37 = .ok (.istore_n 3, 1) := by decide +kernel
theorem xj_M_link_38 : decode xb_M_link 38 = .ok (.iload_n 3, 1) := by decide +kernel
theorem xj_M_link_39 : decode xb_M_link 39 = .ok (.iload_n 1, 1) := by decide +kernel
theorem xj_M_link_40 : decode xb_M_link 40 = .ok (.if_icmp .ge 82, 3) := by decide +kernel
theorem xj_M_link_43 : decode xb_M_link 43 = .ok (.aload_n 0, 1) := by decide +kernel
theorem xj_M_link_44 : decode xb_M_link 44 = .ok (.getfield 39, 3) := by decide +kernel
theorem xj_M_link_47 : decode xb_M_link 47 = .ok (.iload_n 2, 1) := by decide +kernel
theorem xj_M_link_48 : decode xb_M_link 48 = .ok (.baload, 1) := by decide +kernel
theorem xj_M_link_49 : decode xb_M_link 49 = .ok (.ifCond .eq 30, 3) := by decide +kernel
theorem xj_M_link_52 : decode xb_M_link 52 = .ok (.aload_n 0, 1) := by decide +kernel
theorem xj_M_link_53 : decode xb_M_link 53 = .ok (.getfield 39, 3) := by decide +kernel
theorem xj_M_link_56 : decode xb_M_link 56 = .ok (.iload_n 3, 1) := by decide +kernel
theorem xj_M_link_57 : decode xb_M_link 57 = .ok (.baload, 1) := by decide +kernel
theorem xj_M_link_58 : decode xb_M_link 58 = .ok (.ifCond .eq 21, 3) := by decide +kernel
theorem xj_M_link_61 : decode xb_M_link 61 = .ok (.aload_n 0, 1) := by decide +kernel
theorem xj_M_link_62 : decode xb_M_link 62 = .ok (.getfield 26, 3) := by decide +kernel
theorem xj_M_link_65 : decode xb_M_link 65 = .ok (.bipush 13, 2) := by decide +kernel
theorem xj_M_link_67 : decode xb_M_link 67 = .ok (.iload_n 2, 1) := by decide +kernel
theorem xj_M_link_68 : decode xb_M_link 68 = .ok (.imul, 1) := by decide +kernel
theorem xj_M_link_69 : decode xb_M_link 69 = .ok (.iload_n 3, 1) := by decide +kernel
theorem xj_M_link_70 : decode xb_M_link 70 = .ok (.iadd, 1) := by decide +kernel
theorem xj_M_link_71 : decode xb_M_link 71 = .ok (.baload, 1) := by decide +kernel
theorem xj_M_link_72 : decode xb_M_link 72 = .ok (.ifCond .eq 7, 3) := by decide +kernel
theorem xj_M_link_75 : decode xb_M_link 75 = .ok (.iconst 1, 1) := by decide +kernel
theorem xj_M_link_76 : decode xb_M_link 76 = .ok (.goto 4, 3) := by decide +kernel
theorem xj_M_link_79 : decode xb_M_link 79 = .ok (.iconst 0, 1) := by decide +kernel
theorem xj_M_link_80 : decode xb_M_link 80 = .ok (.istore 4, 2) := by decide +kernel
theorem xj_M_link_82 : decode xb_M_link 82 = .ok (.aload_n 0, 1) := by decide +kernel
theorem xj_M_link_83 : decode xb_M_link 83 = .ok (.getfield 33, 3) := by decide +kernel
theorem xj_M_link_86 : decode xb_M_link 86 = .ok (.bipush 13, 2) := by decide +kernel
theorem xj_M_link_88 : decode xb_M_link 88 = .ok (.iload_n 2, 1) := by decide +kernel
theorem xj_M_link_89 : decode xb_M_link 89 = .ok (.imul, 1) := by decide +kernel
theorem xj_M_link_90 : decode xb_M_link 90 = .ok (.iload_n 3, 1) := by decide +kernel
theorem xj_M_link_91 : decode xb_M_link 91 = .ok (.iadd, 1) := by decide +kernel
theorem xj_M_link_92 : decode xb_M_link 92 = .ok (.iload 4, 2) := by decide +kernel
theorem xj_M_link_94 : decode xb_M_link 94 = .ok (.bastore, 1) := by decide +kernel
theorem xj_M_link_95 : decode xb_M_link 95 = .ok (.aload_n 0, 1) := by decide +kernel
theorem xj_M_link_96 : decode xb_M_link 96 = .ok (.getfield 36, 3) := by decide +kernel
theorem xj_M_link_99 : decode xb_M_link 99 = .ok (.bipush 13, 2) := by decide +kernel
theorem xj_M_link_101 : decode xb_M_link 101 = .ok (.iload_n 2, 1) := by decide +kernel
theorem xj_M_link_102 : decode xb_M_link 102 = .ok (.imul, 1) := by decide +kernel
theorem xj_M_link_103 : decode xb_M_link 103 = .ok (.iload_n 3, 1) := by decide +kernel
theorem xj_M_link_104 : decode xb_M_link 104 = .ok (.iadd, 1) := by decide +kernel
theorem xj_M_link_105 : decode xb_M_link 105 = .ok (.iload 4, 2) := by decide +kernel
theorem xj_M_link_107 : decode xb_M_link 107 = .ok (.ifCond .eq 7, 3) := by decide +kernel
theorem xj_M_link_110 : decode xb_M_link 110 = .ok (.iconst 1, 1) := by decide +kernel
theorem xj_M_link_111 : decode xb_M_link 111 = .ok (.goto 4, 3) := by decide +kernel
theorem xj_M_link_114 : decode xb_M_link 114 = .ok (.iconst 0, 1) := by decide +kernel
theorem xj_M_link_115 : decode xb_M_link 115 = .ok (.iastore, 1) := by decide +kernel
theorem xj_M_link_116 : decode xb_M_link 116 = .ok (.iinc 3 1, 3) := by decide +kernel
theorem xj_M_link_119 : decode xb_M_link 119 = .ok (.goto (-81), 3) := by decide +kernel
theorem xj_M_link_122 : decode xb_M_link 122 = .ok (.iinc 2 1, 3) := by decide +kernel
theorem xj_M_link_125 : decode xb_M_link 125 = .ok (.goto (-94), 3) := by decide +kernel
theorem xj_M_link_128 : decode xb_M_link 128 = .ok (.iconst 1, 1) := by decide +kernel
theorem xj_M_link_129 : decode xb_M_link 129 = .ok (.istore_n 2, 1) := by decide +kernel
theorem xj_M_link_130 : decode xb_M_link 130 = .ok (.iconst 2, 1) := by decide +kernel
theorem xj_M_link_131 : decode xb_M_link 131 = .ok (.istore_n 3, 1) := by decide +kernel
theorem xj_M_link_132 : decode xb_M_link 132 = .ok (.iload_n 3, 1) := by decide +kernel
theorem xj_M_link_133 : decode xb_M_link 133 = .ok (.iload_n 1, 1) := by decide +kernel
theorem xj_M_link_134 : decode xb_M_link 134 = .ok (.if_icmp .gt 87, 3) := by decide +kernel
theorem xj_M_link_137 : decode xb_M_link 137 = .ok (.iload_n 2, 1) := by decide +kernel
theorem xj_M_link_138 : decode xb_M_link 138 = .ok (.ifCond .eq 83, 3) := by decide +kernel
theorem xj_M_link_141 : decode xb_M_link 141 = .ok (.iconst 0, 1) := by decide +kernel
theorem xj_M_link_142 : decode xb_M_link 142 = .ok (.istore_n 2, 1) := by decide +kernel
theorem xj_M_link_143 : decode xb_M_link 143 = .ok (.iconst 0, 1) := by decide +kernel
theorem xj_M_link_144 : decode xb_M_link 144 = .ok (.istore 4, 2) := by decide +kernel
theorem xj_M_link_146 : decode xb_M_link 146 = .ok (.iload 4, 2) := by decide +kernel
theorem xj_M_link_148 : decode xb_M_link 148 = .ok (.iload_n 1, 1) := by decide +kernel
theorem xj_M_link_149 : decode xb_M_link 149 = .ok (.if_icmp .ge 66, 3) := by decide +kernel
theorem xj_M_link_152 : decode xb_M_link 152 = .ok (.iconst 0, 1) := by decide +kernel
theorem xj_M_link_153 : decode xb_M_link 153 = .ok (.istore 5, 2) := by decide +kernel
theorem xj_M_link_155 : decode xb_M_link 155 = .ok (.iload 5, 2) := by decide +kernel
theorem xj_M_link_157 : decode xb_M_link 157 = .ok (.iload_n 1, 1) := by decide +kernel
theorem xj_M_link_158 : decode xb_M_link 158 = .ok (.if_icmp .ge 51, 3) := by decide +kernel
theorem xj_M_link_161 : decode xb_M_link 161 = .ok (.aload_n 0, 1) := by decide +kernel
theorem xj_M_link_162 : decode xb_M_link 162 = .ok (.getfield 36, 3) := by decide +kernel
theorem xj_M_link_165 : decode xb_M_link 165 = .ok (.bipush 13, 2) := by decide +kernel
theorem xj_M_link_167 : decode xb_M_link 167 = .ok (.iload 4, 2) := by decide +kernel
theorem xj_M_link_169 : decode xb_M_link 169 = .ok (.imul, 1) := by decide +kernel
theorem xj_M_link_170 : decode xb_M_link 170 = .ok (.iload 5, 2) := by decide +kernel
theorem xj_M_link_172 : decode xb_M_link 172 = .ok (.iadd, 1) := by decide +kernel
theorem xj_M_link_173 : decode xb_M_link 173 = .ok (.iaload, 1) := by decide +kernel
theorem xj_M_link_174 : decode xb_M_link 174 = .ok (.iload_n 3, 1) := by decide +kernel
theorem xj_M_link_175 : decode xb_M_link 175 = .ok (.iconst 1, 1) := by decide +kernel
theorem xj_M_link_176 : decode xb_M_link 176 = .ok (.isub, 1) := by decide +kernel
theorem xj_M_link_177 : decode xb_M_link 177 = .ok (.if_icmp .ne 26, 3) := by decide +kernel
theorem xj_M_link_180 : decode xb_M_link 180 = .ok (.aload_n 0, 1) := by decide +kernel
theorem xj_M_link_181 : decode xb_M_link 181 = .ok (.iload_n 1, 1) := by decide +kernel
theorem xj_M_link_182 : decode xb_M_link 182 = .ok (.iload 4, 2) := by decide +kernel
theorem xj_M_link_184 : decode xb_M_link 184 = .ok (.iload 5, 2) := by decide +kernel
theorem xj_M_link_186 : decode xb_M_link 186 = .ok (.iload_n 3, 1) := by decide +kernel
theorem xj_M_link_187 : decode xb_M_link 187 = .ok (.invokevirtual 66, 3) := by decide +kernel
theorem xj_M_link_190 : decode xb_M_link 190 = .ok (.ifCond .ne 7, 3) := by decide +kernel
theorem xj_M_link_193 : decode xb_M_link 193 = .ok (.iload_n 2, 1) := by decide +kernel
theorem xj_M_link_194 : decode xb_M_link 194 = .ok (.ifCond .eq 7, 3) := by decide +kernel
theorem xj_M_link_197 : decode xb_M_link 197 = .ok (.iconst 1, 1) := by decide +kernel
theorem xj_M_link_198 : decode xb_M_link 198 = .ok (.goto 4, 3) := by decide +kernel
theorem xj_M_link_201 : decode xb_M_link 201 = .ok (.iconst 0, 1) := by decide +kernel
theorem xj_M_link_202 : decode xb_M_link 202 = .ok (.istore_n 2, 1) := by decide +kernel
theorem xj_M_link_203 : decode xb_M_link 203 = .ok (.iinc 5 1, 3) := by decide +kernel
theorem xj_M_link_206 : decode xb_M_link 206 = .ok (.goto (-51), 3) := by decide +kernel
theorem xj_M_link_209 : decode xb_M_link 209 = .ok (.iinc 4 1, 3) := by decide +kernel
theorem xj_M_link_212 : decode xb_M_link 212 = .ok (.goto (-66), 3) := by decide +kernel
theorem xj_M_link_215 : decode xb_M_link 215 = .ok (.iinc 3 1, 3) := by decide +kernel
theorem xj_M_link_218 : decode xb_M_link 218 = .ok (.goto (-86), 3) := by decide +kernel
theorem xj_M_link_221 : decode xb_M_link 221 = .ok (.return_, 1) := by decide +kernel
theorem xj_M_further_0 : decode xb_M_further 0 = .ok (.iconst 0, 1) := by decide +kernel
theorem xj_M_further_1 : decode xb_M_further 1 = .ok (.istore 5, 2) := by decide +kernel
theorem xj_M_further_3 : decode xb_M_further 3 = .ok (.iconst 0, 1) := by decide +kernel
theorem xj_M_further_4 : decode xb_M_further 4 = .ok (.istore 6, 2) := by decide +kernel
theorem xj_M_further_6 : decode xb_M_further 6 = .ok (.iload 6, 2) := by decide +kernel
theorem xj_M_further_8 : decode xb_M_further 8 = .ok (.iload_n 1, 1) := by decide +kernel
theorem xj_M_further_9 : decode xb_M_further 9 = .ok (.if_icmp .ge 82, 3) := by decide +kernel
theorem xj_M_further_12 : decode xb_M_further 12 = .ok (.aload_n 0, 1) := by decide +kernel
theorem xj_M_further_13 : decode xb_M_further 13 = .ok (.getfield 39, 3) := by decide +kernel
theorem xj_M_further_16 : decode xb_M_further 16 = .ok (.iload 6, 2) := by decide +kernel
theorem xj_M_further_18 : decode xb_M_further 18 = .ok (.baload, 1) := by decide +kernel
theorem xj_M_further_19 : decode xb_M_further 19 = .ok (.ifCond .eq 66, 3) := by decide +kernel
theorem xj_M_further_22 : decode xb_M_further 22 = .ok (.aload_n 0, 1) := by decide +kernel
theorem xj_M_further_23 : decode xb_M_further 23 = .ok (.getfield 26, 3) := by decide +kernel
theorem xj_M_further_26 : decode xb_M_further 26 = .ok (.bipush 13, 2) := by decide +kernel
theorem xj_M_further_28 : decode xb_M_further 28 = .ok (.iload_n 3, 1) := by decide +kernel
theorem xj_M_further_29 : decode xb_M_further 29 = .ok (.imul, 1) := by decide +kernel
theorem xj_M_further_30 : decode xb_M_further 30 = .ok (.iload 6, 2) := by decide +kernel
theorem xj_M_further_32 : decode xb_M_further 32 = .ok (.iadd, 1) := by decide +kernel
theorem xj_M_further_33 : decode xb_M_further 33 = .ok (.baload, 1) := by decide +kernel
theorem xj_M_further_34 : decode xb_M_further 34 = .ok (.ifCond .eq 51, 3) := by decide +kernel
theorem xj_M_further_37 : decode xb_M_further 37 = .ok (.aload_n 0, 1) := by decide +kernel
theorem xj_M_further_38 : decode xb_M_further 38 = .ok (.getfield 33, 3) := by decide +kernel
theorem xj_M_further_41 : decode xb_M_further 41 = .ok (.bipush 13, 2) := by decide +kernel
theorem xj_M_further_43 : decode xb_M_further 43 = .ok (.iload_n 2, 1) := by decide +kernel
theorem xj_M_further_44 : decode xb_M_further 44 = .ok (.imul, 1) := by decide +kernel
theorem xj_M_further_45 : decode xb_M_further 45 = .ok (.iload 6, 2) := by decide +kernel
theorem xj_M_further_47 : decode xb_M_further 47 = .ok (.iadd, 1) := by decide +kernel
theorem xj_M_further_48 : decode xb_M_further 48 = .ok (.baload, 1) := by decide +kernel
theorem xj_M_further_49 : decode xb_M_further 49 = .ok (.ifCond .eq 6, 3) := by decide +kernel
theorem xj_M_further_52 : decode xb_M_further 52 = .ok (.goto 33, 3) := by decide +kernel
theorem xj_M_further_55 : decode xb_M_further 55 = .ok (.aload_n 0, 1) := by decide +kernel
theorem xj_M_further_56 : decode xb_M_further 56 = .ok (.getfield 33, 3) := by decide +kernel
theorem xj_M_further_59 : decode xb_M_further 59 = .ok (.bipush 13, 2) := by decide +kernel
theorem xj_M_further_61 : decode xb_M_further 61 = .ok (.iload_n 2, 1) := by decide +kernel
theorem xj_M_further_62 : decode xb_M_further 62 = .ok (.imul, 1) := by decide +kernel
theorem xj_M_further_63 : decode xb_M_further 63 = .ok (.iload 6, 2) := by decide +kernel
theorem xj_M_further_65 : decode xb_M_further 65 = .ok (.iadd, 1) := by decide +kernel
theorem xj_M_further_66 : decode xb_M_further 66 = .ok (.iconst 1, 1) := by decide +kernel
theorem xj_M_further_67 : decode xb_M_further 67 = .ok (.bastore, 1) := by decide +kernel
theorem xj_M_further_68 : decode xb_M_further 68 = .ok (.aload_n 0, 1) := by decide +kernel
theorem xj_M_further_69 : decode xb_M_further 69 = .ok (.getfield 36, 3) := by decide +kernel
theorem xj_M_further_72 : decode xb_M_further 72 = .ok (.bipush 13, 2) := by decide +kernel
theorem xj_M_further_74 : decode xb_M_further 74 = .ok (.iload_n 2, 1) := by decide +kernel
theorem xj_M_further_75 : decode xb_M_further 75 = .ok (.imul, 1) := by decide +kernel
theorem xj_M_further_76 : decode xb_M_further 76 = .ok (.iload 6, 2) := by decide +kernel
theorem xj_M_further_78 : decode xb_M_further 78 = .ok (.iadd, 1) := by decide +kernel
theorem xj_M_further_79 : decode xb_M_further 79 = .ok (.iload 4, 2) := by decide +kernel
theorem xj_M_further_81 : decode xb_M_further 81 = .ok (.iastore, 1) := by decide +kernel
theorem xj_M_further_82 : decode xb_M_further 82 = .ok (.iconst 1, 1) := by decide +kernel
theorem xj_M_further_83 : decode xb_M_further 83 = .ok (.istore 5, 2) := by decide +kernel
theorem xj_M_further_85 : decode xb_M_further 85 = .ok (.iinc 6 1, 3) := by decide +kernel
theorem xj_M_further_88 : decode xb_M_further 88 = .ok (.goto (-82), 3) := by decide +kernel
theorem xj_M_further_91 : decode xb_M_further 91 = .ok (.iload 5, 2) := by decide +kernel
theorem xj_M_further_93 : decode xb_M_further 93 = .ok (.ireturn, 1) := by decide +kernel
theorem xj_M_sensible_0 : decode xb_M_sensible 0 = .ok (.aload_n 0, 1) := by decide +kernel
theorem xj_M_sensible_1 : decode xb_M_sensible 1 = .ok (.iload_n 1, 1) := by decide +kernel
theorem xj_M_sensible_2 : decode xb_M_sensible 2 = .ok (.iconst 0, 1) := by decide +kernel
theorem xj_M_sensible_3 : decode xb_M_sensible 3 = .ok (.iconst 1, 1) := by decide +kernel
theorem xj_M_sensible_4 : decode xb_M_sensible 4 = .ok (.invokestatic 54, 3) := by decide +kernel
theorem xj_M_sensible_7 : decode xb_M_sensible 7 = .ok (.ifCond .eq 7, 3) := by decide +kernel
theorem xj_M_sensible_10 : decode xb_M_sensible 10 = .ok (.iconst 0, 1) := by decide +kernel
theorem xj_M_sensible_11 : decode xb_M_sensible 11 = .ok (.goto 4, 3) := by decide +kernel
theorem xj_M_sensible_14 : decode xb_M_sensible 14 = .ok (.iconst 1, 1) := by decide +kernel
theorem xj_M_sensible_15 : decode xb_M_sensible 15 = .ok (.putfield 48, 3) := by decide +kernel
theorem xj_M_sensible_18 : decode xb_M_sensible 18 = .ok (.aload_n 0, 1) := by decide +kernel
theorem xj_M_sensible_19 : decode xb_M_sensible 19 = .ok (.getfield 48, 3) := by decide +kernel
theorem xj_M_sensible_22 : decode xb_M_sensible 22 = .ok (.ifCond .le 5, 3) := by decide +kernel
theorem xj_M_sensible_25 : decode xb_M_sensible 25 = .ok (.iconst 0, 1) := by decide +kernel
theorem xj_M_sensible_26 : decode xb_M_sensible 26 = .ok (.ireturn, 1) := by decide +kernel
theorem xj_M_sensible_27 : decode xb_M_sensible 27 = .ok (.aload_n 0, 1) := by decide +kernel
theorem xj_M_sensible_28 : decode xb_M_sensible 28 = .ok (.aload_n 0, 1) := by decide +kernel
theorem xj_M_sensible_29 : decode xb_M_sensible 29 = .ok (.getfield 51, 3) := by decide +kernel
theorem xj_M_sensible_32 : decode xb_M_sensible 32 = .ok (.lconst 1, 1) := by decide +kernel
theorem xj_M_sensible_33 : decode xb_M_sensible 33 = .ok (.lconst 1, 1) := by decide +kernel
theorem xj_M_sensible_34 : decode xb_M_sensible 34 = .ok (.invokevirtual 74, 3) := by decide +kernel
theorem xj_M_sensible_37 : decode xb_M_sensible 37 = .ok (.iload_n 1, 1) := by decide +kernel
theorem xj_M_sensible_38 : decode xb_M_sensible 38 = .ok (.ifCond .ne 12, 3) := by decide +kernel
theorem xj_M_sensible_41 : decode xb_M_sensible 41 = .ok (.aload_n 0, 1) := by decide +kernel
theorem xj_M_sensible_42 : decode xb_M_sensible 42 = .ok (.aload_n 0, 1) := by decide +kernel
theorem xj_M_sensible_43 : decode xb_M_sensible 43 = .ok (.getfield 51, 3) := by decide +kernel
theorem xj_M_sensible_46 : decode xb_M_sensible 46 = .ok (.invokevirtual 81, 3) := by decide +kernel
theorem xj_M_sensible_49 : decode xb_M_sensible 49 = .ok (.ireturn, 1) := by decide +kernel
theorem xj_M_sensible_50 : decode xb_M_sensible 50 = .ok (.iconst 0, 1) := by decide +kernel
theorem xj_M_sensible_51 : decode xb_M_sensible 51 = .ok (.istore_n 2, 1) := by decide +kernel
theorem xj_M_sensible_52 : decode xb_M_sensible 52 = .ok (.iload_n 2, 1) := by decide +kernel
theorem xj_M_sensible_53 : decode xb_M_sensible 53 = .ok (.aload_n 0, 1) := by decide +kernel
theorem xj_M_sensible_54 : decode xb_M_sensible 54 = .ok (.getfield 51, 3) := by decide +kernel
theorem xj_M_sensible_57 : decode xb_M_sensible 57 = .ok (.if_icmp .ge 55, 3) := by decide +kernel
theorem xj_M_sensible_60 : decode xb_M_sensible 60 = .ok (.iconst 0, 1) := by decide +kernel
theorem xj_M_sensible_61 : decode xb_M_sensible 61 = .ok (.istore_n 3, 1) := by decide +kernel
theorem xj_M_sensible_62 : decode xb_M_sensible 62 = .ok (.iload_n 3, 1) := by decide +kernel
theorem xj_M_sensible_63 : decode xb_M_sensible 63 = .ok (.aload_n 0, 1) := by decide +kernel
theorem xj_M_sensible_64 : decode xb_M_sensible 64 = .ok (.getfield 51, 3) := by decide +kernel
theorem xj_M_sensible_67 : decode xb_M_sensible 67 = .ok (.if_icmp .ge 39, 3) := by decide +kernel
theorem xj_M_sensible_70 : decode xb_M_sensible 70 = .ok (.aload_n 0, 1) := by decide +kernel
theorem xj_M_sensible_71 : decode xb_M_sensible 71 = .ok (.getfield 26, 3) := by decide +kernel
theorem xj_M_sensible_74 : decode xb_M_sensible 74 = .ok (.bipush 13, 2) := by decide +kernel
theorem xj_M_sensible_76 : decode xb_M_sensible 76 = .ok (.iload_n 2, 1) := by decide +kernel
theorem xj_M_sensible_77 : decode xb_M_sensible 77 = .ok (.imul, 1) := by decide +kernel
theorem xj_M_sensible_78 : decode xb_M_sensible 78 = .ok (.iload_n 3, 1) := by decide +kernel
theorem xj_M_sensible_79 : decode xb_M_sensible 79 = .ok (.iadd, 1) := by decide +kernel
theorem xj_M_sensible_80 : decode xb_M_sensible 80 = .ok (.baload, 1) := by decide +kernel
theorem xj_M_sensible_81 : decode xb_M_sensible 81 = .ok (.ifCond .eq 19, 3) := by decide +kernel
theorem xj_M_sensible_84 : decode xb_M_sensible 84 = .ok (.aload_n 0, 1) := by decide +kernel
theorem xj_M_sensible_85 : decode xb_M_sensible 85 = .ok (.getfield 30, 3) := by decide +kernel
theorem xj_M_sensible_88 : decode xb_M_sensible 88 = .ok (.bipush 13, 2) := by decide +kernel
theorem xj_M_sensible_90 : decode xb_M_sensible 90 = .ok (.iload_n 3, 1) := by decide +kernel
theorem xj_M_sensible_91 : decode xb_M_sensible 91 = .ok (.imul, 1) := by decide +kernel
theorem xj_M_sensible_92 : decode xb_M_sensible 92 = .ok (.iload_n 2, 1) := by decide +kernel
theorem xj_M_sensible_93 : decode xb_M_sensible 93 = .ok (.iadd, 1) := by decide +kernel
theorem xj_M_sensible_94 : decode xb_M_sensible 94 = .ok (.baload, 1) := by decide +kernel
theorem xj_M_sensible_95 : decode xb_M_sensible 95 = .ok (.ifCond .eq 5, 3) := by decide +kernel
theorem xj_M_sensible_98 : decode xb_M_sensible 98 = .ok (.iconst 0, 1) := by decide +kernel
theorem xj_M_sensible_99 : decode xb_M_sensible 99 = .ok (.ireturn, 1) := by decide +kernel
theorem xj_M_sensible_100 : decode xb_M_sensible 100 = .ok (.iinc 3 1, 3) := by decide +kernel
theorem xj_M_sensible_103 : decode xb_M_sensible 103 = .ok (.goto (-41), 3) := by decide +kernel
theorem xj_M_sensible_106 : decode xb_M_sensible 106 = .ok (.iinc 2 1, 3) := by decide +kernel
theorem xj_M_sensible_109 : decode xb_M_sensible 109 = .ok (.goto (-57), 3) := by decide +kernel
theorem xj_M_sensible_112 : decode xb_M_sensible 112 = .ok (.iconst 1, 1) := by decide +kernel
theorem xj_M_sensible_113 : decode xb_M_sensible 113 = .ok (.ireturn, 1) := by decide +kernel
theorem xj_M_isFine_0 : decode xb_M_isFine 0 = .ok (.aload_n 0, 1) := by decide +kernel
theorem xj_M_isFine_1 : decode xb_M_isFine 1 = .ok (.iload_n 1, 1) := by decide +kernel
theorem xj_M_isFine_2 : decode xb_M_isFine 2 = .ok (.invokevirtual 70, 3) := by decide +kernel
theorem xj_M_isFine_5 : decode xb_M_isFine 5 = .ok (.iconst 0, 1) := by decide +kernel
theorem xj_M_isFine_6 : decode xb_M_isFine 6 = .ok (.istore_n 2, 1) := by decide +kernel
theorem xj_M_isFine_7 : decode xb_M_isFine 7 = .ok (.iload_n 2, 1) := by decide +kernel
theorem xj_M_isFine_8 : decode xb_M_isFine 8 = .ok (.iload_n 1, 1) := by decide +kernel
theorem xj_M_isFine_9 : decode xb_M_isFine 9 = .ok (.if_icmp .ge 70, 3) := by decide +kernel
theorem xj_M_isFine_12 : decode xb_M_isFine 12 = .ok (.iconst 0, 1) := by decide +kernel
theorem xj_M_isFine_13 : decode xb_M_isFine 13 = .ok (.istore_n 3, 1) := by decide +kernel
theorem xj_M_isFine_14 : decode xb_M_isFine 14 = .ok (.iload_n 3, 1) := by decide +kernel
theorem xj_M_isFine_15 : decode xb_M_isFine 15 = .ok (.iload_n 1, 1) := by decide +kernel
theorem xj_M_isFine_16 : decode xb_M_isFine 16 = .ok (.if_icmp .ge 57, 3) := by decide +kernel
theorem xj_M_isFine_19 : decode xb_M_isFine 19 = .ok (.aload_n 0, 1) := by decide +kernel
theorem xj_M_isFine_20 : decode xb_M_isFine 20 = .ok (.getfield 39, 3) := by decide +kernel
theorem xj_M_isFine_23 : decode xb_M_isFine 23 = .ok (.iload_n 2, 1) := by decide +kernel
theorem xj_M_isFine_24 : decode xb_M_isFine 24 = .ok (.baload, 1) := by decide +kernel
theorem xj_M_isFine_25 : decode xb_M_isFine 25 = .ok (.ifCond .eq 42, 3) := by decide +kernel
theorem xj_M_isFine_28 : decode xb_M_isFine 28 = .ok (.aload_n 0, 1) := by decide +kernel
theorem xj_M_isFine_29 : decode xb_M_isFine 29 = .ok (.getfield 39, 3) := by decide +kernel
theorem xj_M_isFine_32 : decode xb_M_isFine 32 = .ok (.iload_n 3, 1) := by decide +kernel
theorem xj_M_isFine_33 : decode xb_M_isFine 33 = .ok (.baload, 1) := by decide +kernel
theorem xj_M_isFine_34 : decode xb_M_isFine 34 = .ok (.ifCond .eq 33, 3) := by decide +kernel
theorem xj_M_isFine_37 : decode xb_M_isFine 37 = .ok (.aload_n 0, 1) := by decide +kernel
theorem xj_M_isFine_38 : decode xb_M_isFine 38 = .ok (.getfield 30, 3) := by decide +kernel
theorem xj_M_isFine_41 : decode xb_M_isFine 41 = .ok (.bipush 13, 2) := by decide +kernel
theorem xj_M_isFine_43 : decode xb_M_isFine 43 = .ok (.iload_n 3, 1) := by decide +kernel
theorem xj_M_isFine_44 : decode xb_M_isFine 44 = .ok (.imul, 1) := by decide +kernel
theorem xj_M_isFine_45 : decode xb_M_isFine 45 = .ok (.iload_n 2, 1) := by decide +kernel
theorem xj_M_isFine_46 : decode xb_M_isFine 46 = .ok (.iadd, 1) := by decide +kernel
theorem xj_M_isFine_47 : decode xb_M_isFine 47 = .ok (.baload, 1) := by decide +kernel
theorem xj_M_isFine_48 : decode xb_M_isFine 48 = .ok (.ifCond .eq 19, 3) := by decide +kernel
theorem xj_M_isFine_51 : decode xb_M_isFine 51 = .ok (.aload_n 0, 1) := by decide +kernel
theorem xj_M_isFine_52 : decode xb_M_isFine 52 = .ok (.getfield 33, 3) := by decide +kernel
theorem xj_M_isFine_55 : decode xb_M_isFine 55 = .ok (.bipush 13, 2) := by decide +kernel
theorem xj_M_isFine_57 : decode xb_M_isFine 57 = .ok (.iload_n 2, 1) := by decide +kernel
theorem xj_M_isFine_58 : decode xb_M_isFine 58 = .ok (.imul, 1) := by decide +kernel
theorem xj_M_isFine_59 : decode xb_M_isFine 59 = .ok (.iload_n 3, 1) := by decide +kernel
theorem xj_M_isFine_60 : decode xb_M_isFine 60 = .ok (.iadd, 1) := by decide +kernel
theorem xj_M_isFine_61 : decode xb_M_isFine 61 = .ok (.baload, 1) := by decide +kernel
theorem xj_M_isFine_62 : decode xb_M_isFine 62 = .ok (.ifCond .eq 5, 3) := by decide +kernel
theorem xj_M_isFine_65 : decode xb_M_isFine 65 = .ok (.iconst 0, 1) := by decide +kernel
theorem xj_M_isFine_66 : decode xb_M_isFine 66 = .ok (.ireturn, 1) := by decide +kernel
theorem xj_M_isFine_67 : decode xb_M_isFine 67 = .ok (.iinc 3 1, 3) := by decide +kernel
theorem xj_M_isFine_70 : decode xb_M_isFine 70 = .ok (.goto (-56), 3) := by decide +kernel
theorem xj_M_isFine_73 : decode xb_M_isFine 73 = .ok (.iinc 2 1, 3) := by decide +kernel
theorem xj_M_isFine_76 : decode xb_M_isFine 76 = .ok (.goto (-69), 3) := by decide +kernel
theorem xj_M_isFine_79 : decode xb_M_isFine 79 = .ok (.iconst 1, 1) := by decide +kernel
theorem xj_M_isFine_80 : decode xb_M_isFine 80 = .ok (.ireturn, 1) := by decide +kernel
theorem xj_M_circle_0 : decode xb_M_circle 0 = .ok (.aload_n 0, 1) := by decide +kernel
theorem xj_M_circle_1 : decode xb_M_circle 1 = .ok (.invokevirtual 90, 3) := by decide +kernel
theorem xj_M_circle_4 : decode xb_M_circle 4 = .ok (.istore_n 2, 1) := by decide +kernel
theorem xj_M_circle_5 : decode xb_M_circle 5 = .ok (.aload_n 0, 1) := by decide +kernel
theorem xj_M_circle_6 : decode xb_M_circle 6 = .ok (.iload_n 2, 1) := by decide +kernel
theorem xj_M_circle_7 : decode xb_M_circle 7 = .ok (.ifCond .ne 7, 3) := by decide +kernel
theorem xj_M_circle_10 : decode xb_M_circle 10 = .ok (.iconst 1, 1) := by decide +kernel
theorem xj_M_circle_11 : decode xb_M_circle 11 = .ok (.goto 19, 3) := by decide +kernel
theorem xj_M_circle_14 : decode xb_M_circle 14 = .ok (.iload_n 1, 1) := by decide +kernel
theorem xj_M_circle_15 : decode xb_M_circle 15 = .ok (.iconst (-1), 1) := by decide +kernel
theorem xj_M_circle_16 : decode xb_M_circle 16 = .ok (.iload_n 2, 1) := by decide +kernel
theorem xj_M_circle_17 : decode xb_M_circle 17 = .ok (.iconst 1, 1) := by decide +kernel
theorem xj_M_circle_18 : decode xb_M_circle 18 = .ok (.isub, 1) := by decide +kernel
theorem xj_M_circle_19 : decode xb_M_circle 19 = .ok (.invokestatic 54, 3) := by decide +kernel
theorem xj_M_circle_22 : decode xb_M_circle 22 = .ok (.ifCond .eq 7, 3) := by decide +kernel
theorem xj_M_circle_25 : decode xb_M_circle 25 = .ok (.iconst 0, 1) := by decide +kernel
theorem xj_M_circle_26 : decode xb_M_circle 26 = .ok (.goto 4, 3) := by decide +kernel
theorem xj_M_circle_29 : decode xb_M_circle 29 = .ok (.iconst 2, 1) := by decide +kernel
theorem xj_M_circle_30 : decode xb_M_circle 30 = .ok (.putfield 48, 3) := by decide +kernel
theorem xj_M_circle_33 : decode xb_M_circle 33 = .ok (.aload_n 0, 1) := by decide +kernel
theorem xj_M_circle_34 : decode xb_M_circle 34 = .ok (.getfield 48, 3) := by decide +kernel
theorem xj_M_circle_37 : decode xb_M_circle 37 = .ok (.ifCond .le 5, 3) := by decide +kernel
theorem xj_M_circle_40 : decode xb_M_circle 40 = .ok (.iconst 0, 1) := by decide +kernel
theorem xj_M_circle_41 : decode xb_M_circle 41 = .ok (.ireturn, 1) := by decide +kernel
theorem xj_M_circle_42 : decode xb_M_circle 42 = .ok (.iload_n 1, 1) := by decide +kernel
theorem xj_M_circle_43 : decode xb_M_circle 43 = .ok (.iconst (-1), 1) := by decide +kernel
theorem xj_M_circle_44 : decode xb_M_circle 44 = .ok (.if_icmp .ne 5, 3) := by decide +kernel
theorem xj_M_circle_47 : decode xb_M_circle 47 = .ok (.iload_n 2, 1) := by decide +kernel
theorem xj_M_circle_48 : decode xb_M_circle 48 = .ok (.ireturn, 1) := by decide +kernel
theorem xj_M_circle_49 : decode xb_M_circle 49 = .ok (.aload_n 0, 1) := by decide +kernel
theorem xj_M_circle_50 : decode xb_M_circle 50 = .ok (.iload_n 2, 1) := by decide +kernel
theorem xj_M_circle_51 : decode xb_M_circle 51 = .ok (.invokevirtual 94, 3) := by decide +kernel
theorem xj_M_circle_54 : decode xb_M_circle 54 = .ok (.aload_n 0, 1) := by decide +kernel
theorem xj_M_circle_55 : decode xb_M_circle 55 = .ok (.getfield 42, 3) := by decide +kernel
theorem xj_M_circle_58 : decode xb_M_circle 58 = .ok (.iload_n 1, 1) := by decide +kernel
theorem xj_M_circle_59 : decode xb_M_circle 59 = .ok (.iaload, 1) := by decide +kernel
theorem xj_M_circle_60 : decode xb_M_circle 60 = .ok (.ireturn, 1) := by decide +kernel
theorem xj_M_shortest_0 : decode xb_M_shortest 0 = .ok (.aload_n 0, 1) := by decide +kernel
theorem xj_M_shortest_1 : decode xb_M_shortest 1 = .ok (.invokevirtual 78, 3) := by decide +kernel
theorem xj_M_shortest_4 : decode xb_M_shortest 4 = .ok (.iconst 0, 1) := by decide +kernel
theorem xj_M_shortest_5 : decode xb_M_shortest 5 = .ok (.istore_n 1, 1) := by decide +kernel
theorem xj_M_shortest_6 : decode xb_M_shortest 6 = .ok (.iconst 0, 1) := by decide +kernel
theorem xj_M_shortest_7 : decode xb_M_shortest 7 = .ok (.istore_n 2, 1) := by decide +kernel
theorem xj_M_shortest_8 : decode xb_M_shortest 8 = .ok (.iload_n 2, 1) := by decide +kernel
theorem xj_M_shortest_9 : decode xb_M_shortest 9 = .ok (.aload_n 0, 1) := by decide +kernel
theorem xj_M_shortest_10 : decode xb_M_shortest 10 = .ok (.getfield 51, 3) := by decide +kernel
theorem xj_M_shortest_13 : decode xb_M_shortest 13 = .ok (.if_icmp .ge 88, 3) := by decide +kernel
theorem xj_M_shortest_16 : decode xb_M_shortest 16 = .ok (.iconst 0, 1) := by decide +kernel
theorem xj_M_shortest_17 : decode xb_M_shortest 17 = .ok (.istore_n 3, 1) := by decide +kernel
theorem xj_M_shortest_18 : decode xb_M_shortest 18 = .ok (.iload_n 3, 1) := by decide +kernel
theorem xj_M_shortest_19 : decode xb_M_shortest 19 = .ok (.aload_n 0, 1) := by decide +kernel
theorem xj_M_shortest_20 : decode xb_M_shortest 20 = .ok (.getfield 51, 3) := by decide +kernel
theorem xj_M_shortest_23 : decode xb_M_shortest 23 = .ok (.if_icmp .ge 72, 3) := by decide +kernel
theorem xj_M_shortest_26 : decode xb_M_shortest 26 = .ok (.aload_n 0, 1) := by decide +kernel
theorem xj_M_shortest_27 : decode xb_M_shortest 27 = .ok (.getfield 30, 3) := by decide +kernel
theorem xj_M_shortest_30 : decode xb_M_shortest 30 = .ok (.bipush 13, 2) := by decide +kernel
theorem xj_M_shortest_32 : decode xb_M_shortest 32 = .ok (.iload_n 3, 1) := by decide +kernel
theorem xj_M_shortest_33 : decode xb_M_shortest 33 = .ok (.imul, 1) := by decide +kernel
theorem xj_M_shortest_34 : decode xb_M_shortest 34 = .ok (.iload_n 2, 1) := by decide +kernel
theorem xj_M_shortest_35 : decode xb_M_shortest 35 = .ok (.iadd, 1) := by decide +kernel
theorem xj_M_shortest_36 : decode xb_M_shortest 36 = .ok (.baload, 1) := by decide +kernel
theorem xj_M_shortest_37 : decode xb_M_shortest 37 = .ok (.ifCond .eq 52, 3) := by decide +kernel
theorem xj_M_shortest_40 : decode xb_M_shortest 40 = .ok (.aload_n 0, 1) := by decide +kernel
theorem xj_M_shortest_41 : decode xb_M_shortest 41 = .ok (.getfield 33, 3) := by decide +kernel
theorem xj_M_shortest_44 : decode xb_M_shortest 44 = .ok (.bipush 13, 2) := by decide +kernel
theorem xj_M_shortest_46 : decode xb_M_shortest 46 = .ok (.iload_n 2, 1) := by decide +kernel
theorem xj_M_shortest_47 : decode xb_M_shortest 47 = .ok (.imul, 1) := by decide +kernel
theorem xj_M_shortest_48 : decode xb_M_shortest 48 = .ok (.iload_n 3, 1) := by decide +kernel
theorem xj_M_shortest_49 : decode xb_M_shortest 49 = .ok (.iadd, 1) := by decide +kernel
theorem xj_M_shortest_50 : decode xb_M_shortest 50 = .ok (.baload, 1) := by decide +kernel
theorem xj_M_shortest_51 : decode xb_M_shortest 51 = .ok (.ifCond .ne 6, 3) := by decide +kernel
theorem xj_M_shortest_54 : decode xb_M_shortest 54 = .ok (.goto 35, 3) := by decide +kernel
theorem xj_M_shortest_57 : decode xb_M_shortest 57 = .ok (.aload_n 0, 1) := by decide +kernel
theorem xj_M_shortest_58 : decode xb_M_shortest 58 = .ok (.getfield 36, 3) := by decide +kernel
theorem xj_M_shortest_61 : decode xb_M_shortest 61 = .ok (.bipush 13, 2) := by decide +kernel
theorem xj_M_shortest_63 : decode xb_M_shortest 63 = .ok (.iload_n 2, 1) := by decide +kernel
theorem xj_M_shortest_64 : decode xb_M_shortest 64 = .ok (.imul, 1) := by decide +kernel
theorem xj_M_shortest_65 : decode xb_M_shortest 65 = .ok (.iload_n 3, 1) := by decide +kernel
theorem xj_M_shortest_66 : decode xb_M_shortest 66 = .ok (.iadd, 1) := by decide +kernel
theorem xj_M_shortest_67 : decode xb_M_shortest 67 = .ok (.iaload, 1) := by decide +kernel
theorem xj_M_shortest_68 : decode xb_M_shortest 68 = .ok (.iconst 1, 1) := by decide +kernel
theorem xj_M_shortest_69 : decode xb_M_shortest 69 = .ok (.iadd, 1) := by decide +kernel
theorem xj_M_shortest_70 : decode xb_M_shortest 70 = .ok (.istore 4, 2) := by decide +kernel
theorem xj_M_shortest_72 : decode xb_M_shortest 72 = .ok (.iload_n 1, 1) := by decide +kernel
theorem xj_M_shortest_73 : decode xb_M_shortest 73 = .ok (.ifCond .eq 9, 3) := by decide +kernel
theorem xj_M_shortest_76 : decode xb_M_shortest 76 = .ok (.iload 4, 2) := by decide +kernel
theorem xj_M_shortest_78 : decode xb_M_shortest 78 = .ok (.iload_n 1, 1) := by decide +kernel
theorem xj_M_shortest_79 : decode xb_M_shortest 79 = .ok (.if_icmp .ge 8, 3) := by decide +kernel
theorem xj_M_shortest_82 : decode xb_M_shortest 82 = .ok (.iload 4, 2) := by decide +kernel
theorem xj_M_shortest_84 : decode xb_M_shortest 84 = .ok (.goto 4, 3) := by decide +kernel
theorem xj_M_shortest_87 : decode xb_M_shortest 87 = .ok (.iload_n 1, 1) := by decide +kernel
theorem xj_M_shortest_88 : decode xb_M_shortest 88 = .ok (.istore_n 1, 1) := by decide +kernel
theorem xj_M_shortest_89 : decode xb_M_shortest 89 = .ok (.iinc 3 1, 3) := by decide +kernel
theorem xj_M_shortest_92 : decode xb_M_shortest 92 = .ok (.goto (-74), 3) := by decide +kernel
theorem xj_M_shortest_95 : decode xb_M_shortest 95 = .ok (.iinc 2 1, 3) := by decide +kernel
theorem xj_M_shortest_98 : decode xb_M_shortest 98 = .ok (.goto (-90), 3) := by decide +kernel
theorem xj_M_shortest_101 : decode xb_M_shortest 101 = .ok (.iload_n 1, 1) := by decide +kernel
theorem xj_M_shortest_102 : decode xb_M_shortest 102 = .ok (.ireturn, 1) := by decide +kernel
theorem xj_M_findCircle_0 : decode xb_M_findCircle 0 = .ok (.iconst 0, 1) := by decide +kernel
theorem xj_M_findCircle_1 : decode xb_M_findCircle 1 = .ok (.istore_n 2, 1) := by decide +kernel
theorem xj_M_findCircle_2 : decode xb_M_findCircle 2 = .ok (.aload_n 0, 1) := by decide +kernel
theorem xj_M_findCircle_3 : decode xb_M_findCircle 3 = .ok (.getfield 42, 3) := by decide +kernel
theorem xj_M_findCircle_6 : decode xb_M_findCircle 6 = .ok (.iconst 0, 1) := by decide +kernel
theorem xj_M_findCircle_7 : decode xb_M_findCircle 7 = .ok (.iconst (-1), 1) := by decide +kernel
theorem xj_M_findCircle_8 : decode xb_M_findCircle 8 = .ok (.iastore, 1) := by decide +kernel
theorem xj_M_findCircle_9 : decode xb_M_findCircle 9 = .ok (.iload_n 2, 1) := by decide +kernel
theorem xj_M_findCircle_10 : decode xb_M_findCircle 10 = .ok (.ifCond .lt 69, 3) := by decide +kernel
theorem xj_M_findCircle_13 : decode xb_M_findCircle 13 = .ok (.aload_n 0, 1) := by decide +kernel
theorem xj_M_findCircle_14 : decode xb_M_findCircle 14 = .ok (.getfield 42, 3) := by decide +kernel
theorem xj_M_findCircle_17 : decode xb_M_findCircle 17 = .ok (.iload_n 2, 1) := by decide +kernel
theorem xj_M_findCircle_18 : decode xb_M_findCircle 18 = .ok (.dup2, 1) := by decide +kernel
theorem xj_M_findCircle_19 : decode xb_M_findCircle 19 = .ok (.iaload, 1) := by decide +kernel
theorem xj_M_findCircle_20 : decode xb_M_findCircle 20 = .ok (.iconst 1, 1) := by decide +kernel
theorem xj_M_findCircle_21 : decode xb_M_findCircle 21 = .ok (.iadd, 1) := by decide +kernel
theorem xj_M_findCircle_22 : decode xb_M_findCircle 22 = .ok (.iastore, 1) := by decide +kernel
theorem xj_M_findCircle_23 : decode xb_M_findCircle 23 = .ok (.aload_n 0, 1) := by decide +kernel
theorem xj_M_findCircle_24 : decode xb_M_findCircle 24 = .ok (.getfield 42, 3) := by decide +kernel
theorem xj_M_findCircle_27 : decode xb_M_findCircle 27 = .ok (.iload_n 2, 1) := by decide +kernel
theorem xj_M_findCircle_28 : decode xb_M_findCircle 28 = .ok (.iaload, 1) := by decide +kernel
theorem xj_M_findCircle_29 : decode xb_M_findCircle 29 = .ok (.aload_n 0, 1) := by decide +kernel
theorem xj_M_findCircle_30 : decode xb_M_findCircle 30 = .ok (.getfield 51, 3) := by decide +kernel
theorem xj_M_findCircle_33 : decode xb_M_findCircle 33 = .ok (.if_icmp .ne 9, 3) := by decide +kernel
theorem xj_M_findCircle_36 : decode xb_M_findCircle 36 = .ok (.iinc 2 (-1), 3) := by decide +kernel
theorem xj_M_findCircle_39 : decode xb_M_findCircle 39 = .ok (.goto (-30), 3) := by decide +kernel
theorem xj_M_findCircle_42 : decode xb_M_findCircle 42 = .ok (.aload_n 0, 1) := by decide +kernel
theorem xj_M_findCircle_43 : decode xb_M_findCircle 43 = .ok (.iload_n 2, 1) := by decide +kernel
theorem xj_M_findCircle_44 : decode xb_M_findCircle 44 = .ok (.invokevirtual 84, 3) := by decide +kernel
theorem xj_M_findCircle_47 : decode xb_M_findCircle 47 = .ok (.ifCond .eq (-38), 3) := by decide +kernel
theorem xj_M_findCircle_50 : decode xb_M_findCircle 50 = .ok (.iload_n 2, 1) := by decide +kernel
theorem xj_M_findCircle_51 : decode xb_M_findCircle 51 = .ok (.iconst 1, 1) := by decide +kernel
theorem xj_M_findCircle_52 : decode xb_M_findCircle 52 = .ok (.iadd, 1) := by decide +kernel
theorem xj_M_findCircle_53 : decode xb_M_findCircle 53 = .ok (.iload_n 1, 1) := by decide +kernel
theorem xj_M_findCircle_54 : decode xb_M_findCircle 54 = .ok (.if_icmp .ge 16, 3) := by decide +kernel
theorem xj_M_findCircle_57 : decode xb_M_findCircle 57 = .ok (.iinc 2 1, 3) := by decide +kernel
theorem xj_M_findCircle_60 : decode xb_M_findCircle 60 = .ok (.aload_n 0, 1) := by decide +kernel
theorem xj_M_findCircle_61 : decode xb_M_findCircle 61 = .ok (.getfield 42, 3) := by decide +kernel
theorem xj_M_findCircle_64 : decode xb_M_findCircle 64 = .ok (.iload_n 2, 1) := by decide +kernel
theorem xj_M_findCircle_65 : decode xb_M_findCircle 65 = .ok (.iconst (-1), 1) := by decide +kernel
theorem xj_M_findCircle_66 : decode xb_M_findCircle 66 = .ok (.iastore, 1) := by decide +kernel
theorem xj_M_findCircle_67 : decode xb_M_findCircle 67 = .ok (.goto (-58), 3) := by decide +kernel
theorem xj_M_findCircle_70 : decode xb_M_findCircle 70 = .ok (.aload_n 0, 1) := by decide +kernel
theorem xj_M_findCircle_71 : decode xb_M_findCircle 71 = .ok (.iload_n 1, 1) := by decide +kernel
theorem xj_M_findCircle_72 : decode xb_M_findCircle 72 = .ok (.invokevirtual 87, 3) := by decide +kernel
theorem xj_M_findCircle_75 : decode xb_M_findCircle 75 = .ok (.ifCond .eq (-66), 3) := by decide +kernel
theorem xj_M_findCircle_78 : decode xb_M_findCircle 78 = .ok (.return_, 1) := by decide +kernel
theorem xj_M_findCircle_79 : decode xb_M_findCircle 79 = .ok (.return_, 1) := by decide +kernel
theorem xj_M_mayStand_0 : decode xb_M_mayStand 0 = .ok (.iconst 0, 1) := by decide +kernel
theorem xj_M_mayStand_1 : decode xb_M_mayStand 1 = .ok (.istore_n 2, 1) := by decide +kernel
theorem xj_M_mayStand_2 : decode xb_M_mayStand 2 = .ok (.iload_n 2, 1) := by decide +kernel
theorem xj_M_mayStand_3 : decode xb_M_mayStand 3 = .ok (.iload_n 1, 1) := by decide +kernel
theorem xj_M_mayStand_4 : decode xb_M_mayStand 4 = .ok (.if_icmp .ge 26, 3) := by decide +kernel
theorem xj_M_mayStand_7 : decode xb_M_mayStand 7 = .ok (.aload_n 0, 1) := by decide +kernel
theorem xj_M_mayStand_8 : decode xb_M_mayStand 8 = .ok (.getfield 42, 3) := by decide +kernel
theorem xj_M_mayStand_11 : decode xb_M_mayStand 11 = .ok (.iload_n 2, 1) := by decide +kernel
theorem xj_M_mayStand_12 : decode xb_M_mayStand 12 = .ok (.iaload, 1) := by decide +kernel
theorem xj_M_mayStand_13 : decode xb_M_mayStand 13 = .ok (.aload_n 0, 1) := by decide +kernel
theorem xj_M_mayStand_14 : decode xb_M_mayStand 14 = .ok (.getfield 42, 3) := by decide +kernel
theorem xj_M_mayStand_17 : decode xb_M_mayStand 17 = .ok (.iload_n 1, 1) := by decide +kernel
theorem xj_M_mayStand_18 : decode xb_M_mayStand 18 = .ok (.iaload, 1) := by decide +kernel
theorem xj_M_mayStand_19 : decode xb_M_mayStand 19 = .ok (.if_icmp .ne 5, 3) := by decide +kernel
theorem xj_M_mayStand_22 : decode xb_M_mayStand 22 = .ok (.iconst 0, 1) := by decide +kernel
theorem xj_M_mayStand_23 : decode xb_M_mayStand 23 = .ok (.ireturn, 1) := by decide +kernel
theorem xj_M_mayStand_24 : decode xb_M_mayStand 24 = .ok (.iinc 2 1, 3) := by decide +kernel
theorem xj_M_mayStand_27 : decode xb_M_mayStand 27 = .ok (.goto (-25), 3) := by decide +kernel
theorem xj_M_mayStand_30 : decode xb_M_mayStand 30 = .ok (.iload_n 1, 1) := by decide +kernel
theorem xj_M_mayStand_31 : decode xb_M_mayStand 31 = .ok (.ifCond .eq 29, 3) := by decide +kernel
theorem xj_M_mayStand_34 : decode xb_M_mayStand 34 = .ok (.aload_n 0, 1) := by decide +kernel
theorem xj_M_mayStand_35 : decode xb_M_mayStand 35 = .ok (.getfield 26, 3) := by decide +kernel
theorem xj_M_mayStand_38 : decode xb_M_mayStand 38 = .ok (.bipush 13, 2) := by decide +kernel
theorem xj_M_mayStand_40 : decode xb_M_mayStand 40 = .ok (.aload_n 0, 1) := by decide +kernel
theorem xj_M_mayStand_41 : decode xb_M_mayStand 41 = .ok (.getfield 42, 3) := by decide +kernel
theorem xj_M_mayStand_44 : decode xb_M_mayStand 44 = .ok (.iload_n 1, 1) := by decide +kernel
theorem xj_M_mayStand_45 : decode xb_M_mayStand 45 = .ok (.iconst 1, 1) := by decide +kernel
theorem xj_M_mayStand_46 : decode xb_M_mayStand 46 = .ok (.isub, 1) := by decide +kernel
theorem xj_M_mayStand_47 : decode xb_M_mayStand 47 = .ok (.iaload, 1) := by decide +kernel
theorem xj_M_mayStand_48 : decode xb_M_mayStand 48 = .ok (.imul, 1) := by decide +kernel
theorem xj_M_mayStand_49 : decode xb_M_mayStand 49 = .ok (.aload_n 0, 1) := by decide +kernel
theorem xj_M_mayStand_50 : decode xb_M_mayStand 50 = .ok (.getfield 42, 3) := by decide +kernel
theorem xj_M_mayStand_53 : decode xb_M_mayStand 53 = .ok (.iload_n 1, 1) := by decide +kernel
theorem xj_M_mayStand_54 : decode xb_M_mayStand 54 = .ok (.iaload, 1) := by decide +kernel
theorem xj_M_mayStand_55 : decode xb_M_mayStand 55 = .ok (.iadd, 1) := by decide +kernel
theorem xj_M_mayStand_56 : decode xb_M_mayStand 56 = .ok (.baload, 1) := by decide +kernel
theorem xj_M_mayStand_57 : decode xb_M_mayStand 57 = .ok (.ifCond .eq 7, 3) := by decide +kernel
theorem xj_M_mayStand_60 : decode xb_M_mayStand 60 = .ok (.iconst 1, 1) := by decide +kernel
theorem xj_M_mayStand_61 : decode xb_M_mayStand 61 = .ok (.goto 4, 3) := by decide +kernel
theorem xj_M_mayStand_64 : decode xb_M_mayStand 64 = .ok (.iconst 0, 1) := by decide +kernel
theorem xj_M_mayStand_65 : decode xb_M_mayStand 65 = .ok (.ireturn, 1) := by decide +kernel

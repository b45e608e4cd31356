theorem dX12_isOver_9 : decode cX12_isOver 9 = .ok (.getfield 59, 3) := by decide +kernel
theorem dX12_isOver_12 : decode cX12_isOver 12 = .ok (.iload_n 3, 1) := by decide +kernel
theorem dX12_isOver_13 : decode cX12_isOver 13 = .ok (.iaload, 1) := by decide +kernel
theorem dX12_isOver_14 : decode cX12_isOver 14 = .ok (.if_icmp .le 5, 3) := by decide +kernel
theorem dX12_isOver_17 : decode cX12_isOver 17 = .ok (.iconst 1, 1) := by decide +kernel
theorem dX12_isOver_18 : decode cX12_isOver 18 = .ok (.ireturn, 1) := by decide +kernel
theorem dX12_isOver_19 : decode cX12_isOver 19 = .ok (.aload_n 0, 1) := by decide +kernel
theorem dX12_isOver_20 : decode cX12_isOver 20 = .ok (.getfield 47, 3) := by decide +kernel
theorem dX12_isOver_23 : decode cX12_isOver 23 = .ok (.iload_n 3, 1) := by decide +kernel
theorem dX12_isOver_24 : decode cX12_isOver 24 = .ok (.iaload, 1) := by decide +kernel
theorem dX12_isOver_25 : decode cX12_isOver 25 = .ok (.istore_n 3, 1) := by decide +kernel
theorem dX12_isOver_26 : decode cX12_isOver 26 = .ok (.goto (-24), 3) := by decide +kernel
theorem dX12_isOver_29 : decode cX12_isOver 29 = .ok (.iconst 0, 1) := by decide +kernel
theorem dX12_isOver_30 : decode cX12_isOver 30 = .ok (.ireturn, 1) := by decide +kernel
theorem dX12_doneWith_0 : decode cX12_doneWith 0 = .ok (.iconst 0, 1) := by decide +kernel
theorem dX12_doneWith_1 : decode cX12_doneWith 1 = .ok (.istore_n 3, 1) := by decide +kernel
theorem dX12_doneWith_2 : decode cX12_doneWith 2 = .ok (.iconst 0, 1) := by decide +kernel
theorem dX12_doneWith_3 : decode cX12_doneWith 3 = .ok (.istore 4, 2) := by decide +kernel
theorem dX12_doneWith_5 : decode cX12_doneWith 5 = .ok (.iload 4, 2) := by decide +kernel
theorem dX12_doneWith_7 : decode cX12_doneWith 7 = .ok (.aload_n 0, 1) := by decide +kernel
theorem dX12_doneWith_8 : decode cX12_doneWith 8 = .ok (.getfield 153, 3) := by decide +kernel
theorem dX12_doneWith_11 : decode cX12_doneWith 11 = .ok (.if_icmp .ge 70, 3) := by decide +kernel
theorem dX12_doneWith_14 : decode cX12_doneWith 14 = .ok (.aload_n 0, 1) := by decide +kernel
theorem dX12_doneWith_15 : decode cX12_doneWith 15 = .ok (.getfield 13, 3) := by decide +kernel
theorem dX12_doneWith_18 : decode cX12_doneWith 18 = .ok (.iload 4, 2) := by decide +kernel
theorem dX12_doneWith_20 : decode cX12_doneWith 20 = .ok (.iaload, 1) := by decide +kernel
theorem dX12_doneWith_21 : decode cX12_doneWith 21 = .ok (.iconst 3, 1) := by decide +kernel
theorem dX12_doneWith_22 : decode cX12_doneWith 22 = .ok (.if_icmp .ne 53, 3) := by decide +kernel
theorem dX12_doneWith_25 : decode cX12_doneWith 25 = .ok (.aload_n 0, 1) := by decide +kernel
theorem dX12_doneWith_26 : decode cX12_doneWith 26 = .ok (.iload_n 2, 1) := by decide +kernel
theorem dX12_doneWith_27 : decode cX12_doneWith 27 = .ok (.aload_n 0, 1) := by decide +kernel
theorem dX12_doneWith_28 : decode cX12_doneWith 28 = .ok (.getfield 88, 3) := by decide +kernel
theorem dX12_doneWith_31 : decode cX12_doneWith 31 = .ok (.bipush 6, 2) := by decide +kernel
theorem dX12_doneWith_33 : decode cX12_doneWith 33 = .ok (.aload_n 0, 1) := by decide +kernel
theorem dX12_doneWith_34 : decode cX12_doneWith 34 = .ok (.getfield 22, 3) := by decide +kernel
theorem dX12_doneWith_37 : decode cX12_doneWith 37 = .ok (.iload 4, 2) := by decide +kernel
theorem dX12_doneWith_39 : decode cX12_doneWith 39 = .ok (.iaload, 1) := by decide +kernel
theorem dX12_doneWith_40 : decode cX12_doneWith 40 = .ok (.imul, 1) := by decide +kernel
theorem dX12_doneWith_41 : decode cX12_doneWith 41 = .ok (.iconst 1, 1) := by decide +kernel
theorem dX12_doneWith_42 : decode cX12_doneWith 42 = .ok (.iadd, 1) := by decide +kernel
theorem dX12_doneWith_43 : decode cX12_doneWith 43 = .ok (.iaload, 1) := by decide +kernel
theorem dX12_doneWith_44 : decode cX12_doneWith 44 = .ok (.invokevirtual 166, 3) := by decide +kernel
theorem dX12_doneWith_47 : decode cX12_doneWith 47 = .ok (.ifCond .eq 28, 3) := by decide +kernel
theorem dX12_doneWith_50 : decode cX12_doneWith 50 = .ok (.aload_n 0, 1) := by decide +kernel
theorem dX12_doneWith_51 : decode cX12_doneWith 51 = .ok (.iload_n 1, 1) := by decide +kernel
theorem dX12_doneWith_52 : decode cX12_doneWith 52 = .ok (.iload 4, 2) := by decide +kernel
theorem dX12_doneWith_54 : decode cX12_doneWith 54 = .ok (.invokevirtual 162, 3) := by decide +kernel
theorem dX12_doneWith_57 : decode cX12_doneWith 57 = .ok (.ifCond .eq 18, 3) := by decide +kernel
theorem dX12_doneWith_60 : decode cX12_doneWith 60 = .ok (.iload_n 3, 1) := by decide +kernel
theorem dX12_doneWith_61 : decode cX12_doneWith 61 = .ok (.aload_n 0, 1) := by decide +kernel
theorem dX12_doneWith_62 : decode cX12_doneWith 62 = .ok (.getfield 91, 3) := by decide +kernel
theorem dX12_doneWith_65 : decode cX12_doneWith 65 = .ok (.aload_n 0, 1) := by decide +kernel
theorem dX12_doneWith_66 : decode cX12_doneWith 66 = .ok (.getfield 22, 3) := by decide +kernel
theorem dX12_doneWith_69 : decode cX12_doneWith 69 = .ok (.iload 4, 2) := by decide +kernel
theorem dX12_doneWith_71 : decode cX12_doneWith 71 = .ok (.iaload, 1) := by decide +kernel
theorem dX12_doneWith_72 : decode cX12_doneWith 72 = .ok (.iaload, 1) := by decide +kernel
theorem dX12_doneWith_73 : decode cX12_doneWith 73 = .ok (.iadd, 1) := by decide +kernel
theorem dX12_doneWith_74 : decode cX12_doneWith 74 = .ok (.istore_n 3, 1) := by decide +kernel
theorem dX12_doneWith_75 : decode cX12_doneWith 75 = .ok (.iinc 4 1, 3) := by decide +kernel
theorem dX12_doneWith_78 : decode cX12_doneWith 78 = .ok (.goto (-73), 3) := by decide +kernel
theorem dX12_doneWith_81 : decode cX12_doneWith 81 = .ok (.iload_n 3, 1) := by decide +kernel
theorem dX12_doneWith_82 : decode cX12_doneWith 82 = .ok (.ireturn, 1) := by decide +kernel
theorem dX12_isDeputy_0 : decode cX12_isDeputy 0 = .ok (.iconst 0, 1) := by decide +kernel
theorem dX12_isDeputy_1 : decode cX12_isDeputy 1 = .ok (.istore 4, 2) := by decide +kernel
theorem dX12_isDeputy_3 : decode cX12_isDeputy 3 = .ok (.iload 4, 2) := by decide +kernel
theorem dX12_isDeputy_5 : decode cX12_isDeputy 5 = .ok (.aload_n 0, 1) := by decide +kernel
theorem dX12_isDeputy_6 : decode cX12_isDeputy 6 = .ok (.getfield 153, 3) := by decide +kernel
theorem dX12_isDeputy_9 : decode cX12_isDeputy 9 = .ok (.if_icmp .ge 64, 3) := by decide +kernel
theorem dX12_isDeputy_12 : decode cX12_isDeputy 12 = .ok (.aload_n 0, 1) := by decide +kernel
theorem dX12_isDeputy_13 : decode cX12_isDeputy 13 = .ok (.getfield 13, 3) := by decide +kernel
theorem dX12_isDeputy_16 : decode cX12_isDeputy 16 = .ok (.iload 4, 2) := by decide +kernel
theorem dX12_isDeputy_18 : decode cX12_isDeputy 18 = .ok (.iaload, 1) := by decide +kernel
theorem dX12_isDeputy_19 : decode cX12_isDeputy 19 = .ok (.iconst 2, 1) := by decide +kernel
theorem dX12_isDeputy_20 : decode cX12_isDeputy 20 = .ok (.if_icmp .ne 47, 3) := by decide +kernel
theorem dX12_isDeputy_23 : decode cX12_isDeputy 23 = .ok (.aload_n 0, 1) := by decide +kernel
theorem dX12_isDeputy_24 : decode cX12_isDeputy 24 = .ok (.getfield 22, 3) := by decide +kernel
theorem dX12_isDeputy_27 : decode cX12_isDeputy 27 = .ok (.iload 4, 2) := by decide +kernel
theorem dX12_isDeputy_29 : decode cX12_isDeputy 29 = .ok (.iaload, 1) := by decide +kernel
theorem dX12_isDeputy_30 : decode cX12_isDeputy 30 = .ok (.iload_n 2, 1) := by decide +kernel
theorem dX12_isDeputy_31 : decode cX12_isDeputy 31 = .ok (.if_icmp .ne 36, 3) := by decide +kernel
theorem dX12_isDeputy_34 : decode cX12_isDeputy 34 = .ok (.iload_n 3, 1) := by decide +kernel
theorem dX12_isDeputy_35 : decode cX12_isDeputy 35 = .ok (.aload_n 0, 1) := by decide +kernel
theorem dX12_isDeputy_36 : decode cX12_isDeputy 36 = .ok (.getfield 25, 3) := by decide +kernel
theorem dX12_isDeputy_39 : decode cX12_isDeputy 39 = .ok (.iload 4, 2) := by decide +kernel
theorem dX12_isDeputy_41 : decode cX12_isDeputy 41 = .ok (.iaload, 1) := by decide +kernel
theorem dX12_isDeputy_42 : decode cX12_isDeputy 42 = .ok (.aload_n 0, 1) := by decide +kernel
theorem dX12_isDeputy_43 : decode cX12_isDeputy 43 = .ok (.getfield 28, 3) := by decide +kernel
theorem dX12_isDeputy_46 : decode cX12_isDeputy 46 = .ok (.iload 4, 2) := by decide +kernel
theorem dX12_isDeputy_48 : decode cX12_isDeputy 48 = .ok (.iaload, 1) := by decide +kernel
theorem dX12_isDeputy_49 : decode cX12_isDeputy 49 = .ok (.invokestatic 124, 3) := by decide +kernel
theorem dX12_isDeputy_52 : decode cX12_isDeputy 52 = .ok (.ifCond .eq 15, 3) := by decide +kernel
theorem dX12_isDeputy_55 : decode cX12_isDeputy 55 = .ok (.aload_n 0, 1) := by decide +kernel
theorem dX12_isDeputy_56 : decode cX12_isDeputy 56 = .ok (.iload_n 1, 1) := by decide +kernel
theorem dX12_isDeputy_57 : decode cX12_isDeputy 57 = .ok (.iload 4, 2) := by decide +kernel
theorem dX12_isDeputy_59 : decode cX12_isDeputy 59 = .ok (.invokevirtual 162, 3) := by decide +kernel
theorem dX12_isDeputy_62 : decode cX12_isDeputy 62 = .ok (.ifCond .eq 5, 3) := by decide +kernel
theorem dX12_isDeputy_65 : decode cX12_isDeputy 65 = .ok (.iconst 1, 1) := by decide +kernel
theorem dX12_isDeputy_66 : decode cX12_isDeputy 66 = .ok (.ireturn, 1) := by decide +kernel
theorem dX12_isDeputy_67 : decode cX12_isDeputy 67 = .ok (.iinc 4 1, 3) := by decide +kernel
theorem dX12_isDeputy_70 : decode cX12_isDeputy 70 = .ok (.goto (-67), 3) := by decide +kernel
theorem dX12_isDeputy_73 : decode cX12_isDeputy 73 = .ok (.iconst 0, 1) := by decide +kernel
theorem dX12_isDeputy_74 : decode cX12_isDeputy 74 = .ok (.ireturn, 1) := by decide +kernel
theorem dX12_isAboveLimits_0 : decode cX12_isAboveLimits 0 = .ok (.iload_n 1, 1) := by decide +kernel
theorem dX12_isAboveLimits_1 : decode cX12_isAboveLimits 1 = .ok (.istore_n 3, 1) := by decide +kernel
theorem dX12_isAboveLimits_2 : decode cX12_isAboveLimits 2 = .ok (.iload_n 3, 1) := by decide +kernel
theorem dX12_isAboveLimits_3 : decode cX12_isAboveLimits 3 = .ok (.iconst (-1), 1) := by decide +kernel
theorem dX12_isAboveLimits_4 : decode cX12_isAboveLimits 4 = .ok (.if_icmp .eq 25, 3) := by decide +kernel
theorem dX12_isAboveLimits_7 : decode cX12_isAboveLimits 7 = .ok (.iload_n 2, 1) := by decide +kernel
theorem dX12_isAboveLimits_8 : decode cX12_isAboveLimits 8 = .ok (.aload_n 0, 1) := by decide +kernel
theorem dX12_isAboveLimits_9 : decode cX12_isAboveLimits 9 = .ok (.getfield 53, 3) := by decide +kernel
theorem dX12_isAboveLimits_12 : decode cX12_isAboveLimits 12 = .ok (.iload_n 3, 1) := by decide +kernel
theorem dX12_isAboveLimits_13 : decode cX12_isAboveLimits 13 = .ok (.iaload, 1) := by decide +kernel
theorem dX12_isAboveLimits_14 : decode cX12_isAboveLimits 14 = .ok (.if_icmp .le 5, 3) := by decide +kernel
theorem dX12_isAboveLimits_17 : decode cX12_isAboveLimits 17 = .ok (.iconst 1, 1) := by decide +kernel
theorem dX12_isAboveLimits_18 : decode cX12_isAboveLimits 18 = .ok (.ireturn, 1) := by decide +kernel
theorem dX12_isAboveLimits_19 : decode cX12_isAboveLimits 19 = .ok (.aload_n 0, 1) := by decide +kernel
theorem dX12_isAboveLimits_20 : decode cX12_isAboveLimits 20 = .ok (.getfield 47, 3) := by decide +kernel
theorem dX12_isAboveLimits_23 : decode cX12_isAboveLimits 23 = .ok (.iload_n 3, 1) := by decide +kernel
theorem dX12_isAboveLimits_24 : decode cX12_isAboveLimits 24 = .ok (.iaload, 1) := by decide +kernel
theorem dX12_isAboveLimits_25 : decode cX12_isAboveLimits 25 = .ok (.istore_n 3, 1) := by decide +kernel
theorem dX12_isAboveLimits_26 : decode cX12_isAboveLimits 26 = .ok (.goto (-24), 3) := by decide +kernel
theorem dX12_isAboveLimits_29 : decode cX12_isAboveLimits 29 = .ok (.iconst 0, 1) := by decide +kernel
theorem dX12_isAboveLimits_30 : decode cX12_isAboveLimits 30 = .ok (.ireturn, 1) := by decide +kernel
theorem dX12_isAboveTotals_0 : decode cX12_isAboveTotals 0 = .ok (.iload_n 2, 1) := by decide +kernel
theorem dX12_isAboveTotals_1 : decode cX12_isAboveTotals 1 = .ok (.istore 4, 2) := by decide +kernel
theorem dX12_isAboveTotals_3 : decode cX12_isAboveTotals 3 = .ok (.iload 4, 2) := by decide +kernel
theorem dX12_isAboveTotals_5 : decode cX12_isAboveTotals 5 = .ok (.iconst (-1), 1) := by decide +kernel
theorem dX12_isAboveTotals_6 : decode cX12_isAboveTotals 6 = .ok (.if_icmp .eq 36, 3) := by decide +kernel
theorem dX12_isAboveTotals_9 : decode cX12_isAboveTotals 9 = .ok (.aload_n 0, 1) := by decide +kernel
theorem dX12_isAboveTotals_10 : decode cX12_isAboveTotals 10 = .ok (.iload_n 1, 1) := by decide +kernel
theorem dX12_isAboveTotals_11 : decode cX12_isAboveTotals 11 = .ok (.iload 4, 2) := by decide +kernel
theorem dX12_isAboveTotals_13 : decode cX12_isAboveTotals 13 = .ok (.invokevirtual 169, 3) := by decide +kernel
theorem dX12_isAboveTotals_16 : decode cX12_isAboveTotals 16 = .ok (.iload_n 3, 1) := by decide +kernel
theorem dX12_isAboveTotals_17 : decode cX12_isAboveTotals 17 = .ok (.iadd, 1) := by decide +kernel
theorem dX12_isAboveTotals_18 : decode cX12_isAboveTotals 18 = .ok (.aload_n 0, 1) := by decide +kernel
theorem dX12_isAboveTotals_19 : decode cX12_isAboveTotals 19 = .ok (.getfield 56, 3) := by decide +kernel
theorem dX12_isAboveTotals_22 : decode cX12_isAboveTotals 22 = .ok (.iload 4, 2) := by decide +kernel
theorem dX12_isAboveTotals_24 : decode cX12_isAboveTotals 24 = .ok (.iaload, 1) := by decide +kernel
theorem dX12_isAboveTotals_25 : decode cX12_isAboveTotals 25 = .ok (.if_icmp .le 5, 3) := by decide +kernel
theorem dX12_isAboveTotals_28 : decode cX12_isAboveTotals 28 = .ok (.iconst 1, 1) := by decide +kernel
theorem dX12_isAboveTotals_29 : decode cX12_isAboveTotals 29 = .ok (.ireturn, 1) := by decide +kernel
theorem dX12_isAboveTotals_30 : decode cX12_isAboveTotals 30 = .ok (.aload_n 0, 1) := by decide +kernel
theorem dX12_isAboveTotals_31 : decode cX12_isAboveTotals 31 = .ok (.getfield 47, 3) := by decide +kernel
theorem dX12_isAboveTotals_34 : decode cX12_isAboveTotals 34 = .ok (.iload 4, 2) := by decide +kernel
theorem dX12_isAboveTotals_36 : decode cX12_isAboveTotals 36 = .ok (.iaload, 1) := by decide +kernel
theorem dX12_isAboveTotals_37 : decode cX12_isAboveTotals 37 = .ok (.istore 4, 2) := by decide +kernel
theorem dX12_isAboveTotals_39 : decode cX12_isAboveTotals 39 = .ok (.goto (-36), 3) := by decide +kernel
theorem dX12_isAboveTotals_42 : decode cX12_isAboveTotals 42 = .ok (.iconst 0, 1) := by decide +kernel
theorem dX12_isAboveTotals_43 : decode cX12_isAboveTotals 43 = .ok (.ireturn, 1) := by decide +kernel
theorem dX12_reason_0 : decode cX12_reason 0 = .ok (.aload_n 0, 1) := by decide +kernel
theorem dX12_reason_1 : decode cX12_reason 1 = .ok (.iload_n 1, 1) := by decide +kernel
theorem dX12_reason_2 : decode cX12_reason 2 = .ok (.iload 5, 2) := by decide +kernel
theorem dX12_reason_4 : decode cX12_reason 4 = .ok (.invokevirtual 172, 3) := by decide +kernel
theorem dX12_reason_7 : decode cX12_reason 7 = .ok (.ifCond .ne 5, 3) := by decide +kernel
theorem dX12_reason_10 : decode cX12_reason 10 = .ok (.iconst 1, 1) := by decide +kernel
theorem dX12_reason_11 : decode cX12_reason 11 = .ok (.ireturn, 1) := by decide +kernel
theorem dX12_reason_12 : decode cX12_reason 12 = .ok (.aload_n 0, 1) := by decide +kernel
theorem dX12_reason_13 : decode cX12_reason 13 = .ok (.getfield 44, 3) := by decide +kernel
theorem dX12_reason_16 : decode cX12_reason 16 = .ok (.iload 5, 2) := by decide +kernel
theorem dX12_reason_18 : decode cX12_reason 18 = .ok (.iaload, 1) := by decide +kernel
theorem dX12_reason_19 : decode cX12_reason 19 = .ok (.iload 4, 2) := by decide +kernel
theorem dX12_reason_21 : decode cX12_reason 21 = .ok (.if_icmp .eq 5, 3) := by decide +kernel
theorem dX12_reason_24 : decode cX12_reason 24 = .ok (.iconst 2, 1) := by decide +kernel
theorem dX12_reason_25 : decode cX12_reason 25 = .ok (.ireturn, 1) := by decide +kernel
theorem dX12_reason_26 : decode cX12_reason 26 = .ok (.aload_n 0, 1) := by decide +kernel
theorem dX12_reason_27 : decode cX12_reason 27 = .ok (.iload_n 1, 1) := by decide +kernel
theorem dX12_reason_28 : decode cX12_reason 28 = .ok (.iload 5, 2) := by decide +kernel
theorem dX12_reason_30 : decode cX12_reason 30 = .ok (.invokevirtual 175, 3) := by decide +kernel
theorem dX12_reason_33 : decode cX12_reason 33 = .ok (.ifCond .eq 5, 3) := by decide +kernel
theorem dX12_reason_36 : decode cX12_reason 36 = .ok (.iconst 3, 1) := by decide +kernel
theorem dX12_reason_37 : decode cX12_reason 37 = .ok (.ireturn, 1) := by decide +kernel
theorem dX12_reason_38 : decode cX12_reason 38 = .ok (.aload_n 0, 1) := by decide +kernel
theorem dX12_reason_39 : decode cX12_reason 39 = .ok (.iload 5, 2) := by decide +kernel
theorem dX12_reason_41 : decode cX12_reason 41 = .ok (.iload_n 3, 1) := by decide +kernel
theorem dX12_reason_42 : decode cX12_reason 42 = .ok (.invokevirtual 178, 3) := by decide +kernel
theorem dX12_reason_45 : decode cX12_reason 45 = .ok (.ifCond .eq 5, 3) := by decide +kernel
theorem dX12_reason_48 : decode cX12_reason 48 = .ok (.iconst 4, 1) := by decide +kernel
theorem dX12_reason_49 : decode cX12_reason 49 = .ok (.ireturn, 1) := by decide +kernel
theorem dX12_reason_50 : decode cX12_reason 50 = .ok (.aload_n 0, 1) := by decide +kernel
theorem dX12_reason_51 : decode cX12_reason 51 = .ok (.getfield 50, 3) := by decide +kernel
theorem dX12_reason_54 : decode cX12_reason 54 = .ok (.iload 5, 2) := by decide +kernel
theorem dX12_reason_56 : decode cX12_reason 56 = .ok (.iaload, 1) := by decide +kernel
theorem dX12_reason_57 : decode cX12_reason 57 = .ok (.iload 6, 2) := by decide +kernel
theorem dX12_reason_59 : decode cX12_reason 59 = .ok (.ishr, 1) := by decide +kernel
theorem dX12_reason_60 : decode cX12_reason 60 = .ok (.iconst 1, 1) := by decide +kernel
theorem dX12_reason_61 : decode cX12_reason 61 = .ok (.iand, 1) := by decide +kernel
theorem dX12_reason_62 : decode cX12_reason 62 = .ok (.ifCond .ne 5, 3) := by decide +kernel
theorem dX12_reason_65 : decode cX12_reason 65 = .ok (.iconst 5, 1) := by decide +kernel
theorem dX12_reason_66 : decode cX12_reason 66 = .ok (.ireturn, 1) := by decide +kernel
theorem dX12_reason_67 : decode cX12_reason 67 = .ok (.aload_n 0, 1) := by decide +kernel
theorem dX12_reason_68 : decode cX12_reason 68 = .ok (.iload 5, 2) := by decide +kernel
theorem dX12_reason_70 : decode cX12_reason 70 = .ok (.iload 7, 2) := by decide +kernel
theorem dX12_reason_72 : decode cX12_reason 72 = .ok (.invokevirtual 181, 3) := by decide +kernel
theorem dX12_reason_75 : decode cX12_reason 75 = .ok (.ifCond .eq 6, 3) := by decide +kernel
theorem dX12_reason_78 : decode cX12_reason 78 = .ok (.bipush 6, 2) := by decide +kernel
theorem dX12_reason_80 : decode cX12_reason 80 = .ok (.ireturn, 1) := by decide +kernel
theorem dX12_reason_81 : decode cX12_reason 81 = .ok (.aload_n 0, 1) := by decide +kernel
theorem dX12_reason_82 : decode cX12_reason 82 = .ok (.iload_n 1, 1) := by decide +kernel
theorem dX12_reason_83 : decode cX12_reason 83 = .ok (.iload 5, 2) := by decide +kernel
theorem dX12_reason_85 : decode cX12_reason 85 = .ok (.iload 7, 2) := by decide +kernel
theorem dX12_reason_87 : decode cX12_reason 87 = .ok (.invokevirtual 184, 3) := by decide +kernel
theorem dX12_reason_90 : decode cX12_reason 90 = .ok (.ifCond .eq 8, 3) := by decide +kernel
theorem dX12_reason_93 : decode cX12_reason 93 = .ok (.bipush 7, 2) := by decide +kernel
theorem dX12_reason_95 : decode cX12_reason 95 = .ok (.goto 30, 3) := by decide +kernel
theorem dX12_reason_98 : decode cX12_reason 98 = .ok (.aload_n 0, 1) := by decide +kernel
theorem dX12_reason_99 : decode cX12_reason 99 = .ok (.iload_n 1, 1) := by decide +kernel
theorem dX12_reason_100 : decode cX12_reason 100 = .ok (.iload_n 2, 1) := by decide +kernel
theorem dX12_reason_101 : decode cX12_reason 101 = .ok (.iload_n 3, 1) := by decide +kernel
theorem dX12_reason_102 : decode cX12_reason 102 = .ok (.invokevirtual 187, 3) := by decide +kernel
theorem dX12_reason_105 : decode cX12_reason 105 = .ok (.iload 8, 2) := by decide +kernel
theorem dX12_reason_107 : decode cX12_reason 107 = .ok (.iconst 1, 1) := by decide +kernel
theorem dX12_reason_108 : decode cX12_reason 108 = .ok (.if_icmp .ne 7, 3) := by decide +kernel
theorem dX12_reason_111 : decode cX12_reason 111 = .ok (.iconst 1, 1) := by decide +kernel
theorem dX12_reason_112 : decode cX12_reason 112 = .ok (.goto 4, 3) := by decide +kernel
theorem dX12_reason_115 : decode cX12_reason 115 = .ok (.iconst 0, 1) := by decide +kernel
theorem dX12_reason_116 : decode cX12_reason 116 = .ok (.if_icmp .eq 8, 3) := by decide +kernel
theorem dX12_reason_119 : decode cX12_reason 119 = .ok (.bipush 8, 2) := by decide +kernel
theorem dX12_reason_121 : decode cX12_reason 121 = .ok (.goto 4, 3) := by decide +kernel
theorem dX12_reason_124 : decode cX12_reason 124 = .ok (.iconst 0, 1) := by decide +kernel
theorem dX12_reason_125 : decode cX12_reason 125 = .ok (.ireturn, 1) := by decide +kernel
theorem dX12_reasonNow_0 : decode cX12_reasonNow 0 = .ok (.aload_n 0, 1) := by decide +kernel
theorem dX12_reasonNow_1 : decode cX12_reasonNow 1 = .ok (.iload_n 1, 1) := by decide +kernel
theorem dX12_reasonNow_2 : decode cX12_reasonNow 2 = .ok (.iload_n 1, 1) := by decide +kernel
theorem dX12_reasonNow_3 : decode cX12_reasonNow 3 = .ok (.aload_n 0, 1) := by decide +kernel
theorem dX12_reasonNow_4 : decode cX12_reasonNow 4 = .ok (.getfield 150, 3) := by decide +kernel
theorem dX12_reasonNow_7 : decode cX12_reasonNow 7 = .ok (.iload_n 2, 1) := by decide +kernel
theorem dX12_reasonNow_8 : decode cX12_reasonNow 8 = .ok (.iload_n 3, 1) := by decide +kernel
theorem dX12_reasonNow_9 : decode cX12_reasonNow 9 = .ok (.aload_n 0, 1) := by decide +kernel
theorem dX12_reasonNow_10 : decode cX12_reasonNow 10 = .ok (.getfield 190, 3) := by decide +kernel
theorem dX12_reasonNow_13 : decode cX12_reasonNow 13 = .ok (.iload 4, 2) := by decide +kernel
theorem dX12_reasonNow_15 : decode cX12_reasonNow 15 = .ok (.aload_n 0, 1) := by decide +kernel
theorem dX12_reasonNow_16 : decode cX12_reasonNow 16 = .ok (.getfield 193, 3) := by decide +kernel
theorem dX12_reasonNow_19 : decode cX12_reasonNow 19 = .ok (.invokevirtual 196, 3) := by decide +kernel
theorem dX12_reasonNow_22 : decode cX12_reasonNow 22 = .ok (.ireturn, 1) := by decide +kernel
theorem dX12_isGoodAt_0 : decode cX12_isGoodAt 0 = .ok (.aload_n 0, 1) := by decide +kernel
theorem dX12_isGoodAt_1 : decode cX12_isGoodAt 1 = .ok (.iload_n 1, 1) := by decide +kernel
theorem dX12_isGoodAt_2 : decode cX12_isGoodAt 2 = .ok (.iload_n 2, 1) := by decide +kernel
theorem dX12_isGoodAt_3 : decode cX12_isGoodAt 3 = .ok (.invokevirtual 172, 3) := by decide +kernel
theorem dX12_isGoodAt_6 : decode cX12_isGoodAt 6 = .ok (.ifCond .eq 28, 3) := by decide +kernel
theorem dX12_isGoodAt_9 : decode cX12_isGoodAt 9 = .ok (.aload_n 0, 1) := by decide +kernel
theorem dX12_isGoodAt_10 : decode cX12_isGoodAt 10 = .ok (.iload_n 1, 1) := by decide +kernel
theorem dX12_isGoodAt_11 : decode cX12_isGoodAt 11 = .ok (.iload_n 2, 1) := by decide +kernel
theorem dX12_isGoodAt_12 : decode cX12_isGoodAt 12 = .ok (.invokevirtual 175, 3) := by decide +kernel
theorem dX12_isGoodAt_15 : decode cX12_isGoodAt 15 = .ok (.ifCond .ne 19, 3) := by decide +kernel
theorem dX12_isGoodAt_18 : decode cX12_isGoodAt 18 = .ok (.aload_n 0, 1) := by decide +kernel
theorem dX12_isGoodAt_19 : decode cX12_isGoodAt 19 = .ok (.iload_n 2, 1) := by decide +kernel
theorem dX12_isGoodAt_20 : decode cX12_isGoodAt 20 = .ok (.aload_n 0, 1) := by decide +kernel
theorem dX12_isGoodAt_21 : decode cX12_isGoodAt 21 = .ok (.getfield 150, 3) := by decide +kernel
theorem dX12_isGoodAt_24 : decode cX12_isGoodAt 24 = .ok (.invokevirtual 178, 3) := by decide +kernel
theorem dX12_isGoodAt_27 : decode cX12_isGoodAt 27 = .ok (.ifCond .ne 7, 3) := by decide +kernel
theorem dX12_isGoodAt_30 : decode cX12_isGoodAt 30 = .ok (.iconst 1, 1) := by decide +kernel
theorem dX12_isGoodAt_31 : decode cX12_isGoodAt 31 = .ok (.goto 4, 3) := by decide +kernel
theorem dX12_isGoodAt_34 : decode cX12_isGoodAt 34 = .ok (.iconst 0, 1) := by decide +kernel
theorem dX12_isGoodAt_35 : decode cX12_isGoodAt 35 = .ok (.ireturn, 1) := by decide +kernel
theorem dX12_draft_0 : decode cX12_draft 0 = .ok (.iload_n 1, 1) := by decide +kernel
theorem dX12_draft_1 : decode cX12_draft 1 = .ok (.iconst 1, 1) := by decide +kernel
theorem dX12_draft_2 : decode cX12_draft 2 = .ok (.bipush 63, 2) := by decide +kernel
theorem dX12_draft_4 : decode cX12_draft 4 = .ok (.invokestatic 124, 3) := by decide +kernel
theorem dX12_draft_7 : decode cX12_draft 7 = .ok (.ifCond .eq 28, 3) := by decide +kernel
theorem dX12_draft_10 : decode cX12_draft 10 = .ok (.iload_n 2, 1) := by decide +kernel
theorem dX12_draft_11 : decode cX12_draft 11 = .ok (.iconst 1, 1) := by decide +kernel
theorem dX12_draft_12 : decode cX12_draft 12 = .ok (.sipush 10000, 3) := by decide +kernel
theorem dX12_draft_15 : decode cX12_draft 15 = .ok (.invokestatic 124, 3) := by decide +kernel
theorem dX12_draft_18 : decode cX12_draft 18 = .ok (.ifCond .eq 17, 3) := by decide +kernel
theorem dX12_draft_21 : decode cX12_draft 21 = .ok (.iload_n 3, 1) := by decide +kernel
theorem dX12_draft_22 : decode cX12_draft 22 = .ok (.iconst 1, 1) := by decide +kernel
theorem dX12_draft_23 : decode cX12_draft 23 = .ok (.ldc 72, 2) := by decide +kernel
theorem dX12_draft_25 : decode cX12_draft 25 = .ok (.invokestatic 124, 3) := by decide +kernel
theorem dX12_draft_28 : decode cX12_draft 28 = .ok (.ifCond .eq 7, 3) := by decide +kernel
theorem dX12_draft_31 : decode cX12_draft 31 = .ok (.iconst 1, 1) := by decide +kernel
theorem dX12_draft_32 : decode cX12_draft 32 = .ok (.goto 4, 3) := by decide +kernel
theorem dX12_draft_35 : decode cX12_draft 35 = .ok (.iconst 0, 1) := by decide +kernel
theorem dX12_draft_36 : decode cX12_draft 36 = .ok (.istore 6, 2) := by decide +kernel
theorem dX12_draft_38 : decode cX12_draft 38 = .ok (.aload_n 0, 1) := by decide +kernel
theorem dX12_draft_39 : decode cX12_draft 39 = .ok (.iload 6, 2) := by decide +kernel
theorem dX12_draft_41 : decode cX12_draft 41 = .ok (.ifCond .eq 29, 3) := by decide +kernel
theorem dX12_draft_44 : decode cX12_draft 44 = .ok (.iload 4, 2) := by decide +kernel
theorem dX12_draft_46 : decode cX12_draft 46 = .ok (.iconst 0, 1) := by decide +kernel
theorem dX12_draft_47 : decode cX12_draft 47 = .ok (.sipush 400, 3) := by decide +kernel
theorem dX12_draft_50 : decode cX12_draft 50 = .ok (.invokestatic 124, 3) := by decide +kernel
theorem dX12_draft_53 : decode cX12_draft 53 = .ok (.ifCond .eq 17, 3) := by decide +kernel
theorem dX12_draft_56 : decode cX12_draft 56 = .ok (.iload 5, 2) := by decide +kernel
theorem dX12_draft_58 : decode cX12_draft 58 = .ok (.iconst 0, 1) := by decide +kernel
theorem dX12_draft_59 : decode cX12_draft 59 = .ok (.iconst 3, 1) := by decide +kernel
theorem dX12_draft_60 : decode cX12_draft 60 = .ok (.invokestatic 124, 3) := by decide +kernel
theorem dX12_draft_63 : decode cX12_draft 63 = .ok (.ifCond .eq 7, 3) := by decide +kernel
theorem dX12_draft_66 : decode cX12_draft 66 = .ok (.iconst 0, 1) := by decide +kernel
theorem dX12_draft_67 : decode cX12_draft 67 = .ok (.goto 4, 3) := by decide +kernel
theorem dX12_draft_70 : decode cX12_draft 70 = .ok (.iconst 1, 1) := by decide +kernel
theorem dX12_draft_71 : decode cX12_draft 71 = .ok (.invokevirtual 143, 3) := by decide +kernel
theorem dX12_draft_74 : decode cX12_draft 74 = .ok (.ifCond .eq 30, 3) := by decide +kernel
theorem dX12_draft_77 : decode cX12_draft 77 = .ok (.aload_n 0, 1) := by decide +kernel
theorem dX12_draft_78 : decode cX12_draft 78 = .ok (.iload_n 1, 1) := by decide +kernel
theorem dX12_draft_79 : decode cX12_draft 79 = .ok (.putfield 65, 3) := by decide +kernel
theorem dX12_draft_82 : decode cX12_draft 82 = .ok (.aload_n 0, 1) := by decide +kernel
theorem dX12_draft_83 : decode cX12_draft 83 = .ok (.iload_n 2, 1) := by decide +kernel
theorem dX12_draft_84 : decode cX12_draft 84 = .ok (.putfield 69, 3) := by decide +kernel
theorem dX12_draft_87 : decode cX12_draft 87 = .ok (.aload_n 0, 1) := by decide +kernel
theorem dX12_draft_88 : decode cX12_draft 88 = .ok (.iload_n 3, 1) := by decide +kernel
theorem dX12_draft_89 : decode cX12_draft 89 = .ok (.putfield 73, 3) := by decide +kernel
theorem dX12_draft_92 : decode cX12_draft 92 = .ok (.aload_n 0, 1) := by decide +kernel
theorem dX12_draft_93 : decode cX12_draft 93 = .ok (.iload 4, 2) := by decide +kernel
theorem dX12_draft_95 : decode cX12_draft 95 = .ok (.putfield 76, 3) := by decide +kernel
theorem dX12_draft_98 : decode cX12_draft 98 = .ok (.aload_n 0, 1) := by decide +kernel
theorem dX12_draft_99 : decode cX12_draft 99 = .ok (.iload 5, 2) := by decide +kernel
theorem dX12_draft_101 : decode cX12_draft 101 = .ok (.putfield 200, 3) := by decide +kernel
theorem dX12_draft_104 : decode cX12_draft 104 = .ok (.return_, 1) := by decide +kernel
theorem dX12_isFull_0 : decode cX12_isFull 0 = .ok (.aload_n 0, 1) := by decide +kernel
theorem dX12_isFull_1 : decode cX12_isFull 1 = .ok (.getfield 128, 3) := by decide +kernel
theorem dX12_isFull_4 : decode cX12_isFull 4 = .ok (.bipush 40, 2) := by decide +kernel
theorem dX12_isFull_6 : decode cX12_isFull 6 = .ok (.if_icmp .eq 13, 3) := by decide +kernel
theorem dX12_isFull_9 : decode cX12_isFull 9 = .ok (.aload_n 0, 1) := by decide +kernel
theorem dX12_isFull_10 : decode cX12_isFull 10 = .ok (.getfield 153, 3) := by decide +kernel
theorem dX12_isFull_13 : decode cX12_isFull 13 = .ok (.sipush 160, 3) := by decide +kernel
theorem dX12_isFull_16 : decode cX12_isFull 16 = .ok (.if_icmp .ne 7, 3) := by decide +kernel
theorem dX12_isFull_19 : decode cX12_isFull 19 = .ok (.iconst 1, 1) := by decide +kernel
theorem dX12_isFull_20 : decode cX12_isFull 20 = .ok (.goto 4, 3) := by decide +kernel
theorem dX12_isFull_23 : decode cX12_isFull 23 = .ok (.iconst 0, 1) := by decide +kernel
theorem dX12_isFull_24 : decode cX12_isFull 24 = .ok (.ireturn, 1) := by decide +kernel
theorem dX12_adds_0 : decode cX12_adds 0 = .ok (.aload_n 0, 1) := by decide +kernel
theorem dX12_adds_1 : decode cX12_adds 1 = .ok (.getfield 41, 3) := by decide +kernel
theorem dX12_adds_4 : decode cX12_adds 4 = .ok (.aload_n 0, 1) := by decide +kernel
theorem dX12_adds_5 : decode cX12_adds 5 = .ok (.getfield 128, 3) := by decide +kernel
theorem dX12_adds_8 : decode cX12_adds 8 = .ok (.iload_n 2, 1) := by decide +kernel
theorem dX12_adds_9 : decode cX12_adds 9 = .ok (.iastore, 1) := by decide +kernel
theorem dX12_adds_10 : decode cX12_adds 10 = .ok (.aload_n 0, 1) := by decide +kernel
theorem dX12_adds_11 : decode cX12_adds 11 = .ok (.getfield 44, 3) := by decide +kernel
theorem dX12_adds_14 : decode cX12_adds 14 = .ok (.aload_n 0, 1) := by decide +kernel
theorem dX12_adds_15 : decode cX12_adds 15 = .ok (.getfield 128, 3) := by decide +kernel
theorem dX12_adds_18 : decode cX12_adds 18 = .ok (.iload_n 3, 1) := by decide +kernel
theorem dX12_adds_19 : decode cX12_adds 19 = .ok (.iastore, 1) := by decide +kernel
theorem dX12_adds_20 : decode cX12_adds 20 = .ok (.aload_n 0, 1) := by decide +kernel
theorem dX12_adds_21 : decode cX12_adds 21 = .ok (.getfield 47, 3) := by decide +kernel
theorem dX12_adds_24 : decode cX12_adds 24 = .ok (.aload_n 0, 1) := by decide +kernel
theorem dX12_adds_25 : decode cX12_adds 25 = .ok (.getfield 128, 3) := by decide +kernel
theorem dX12_adds_28 : decode cX12_adds 28 = .ok (.iload 4, 2) := by decide +kernel
theorem dX12_adds_30 : decode cX12_adds 30 = .ok (.iastore, 1) := by decide +kernel
theorem dX12_adds_31 : decode cX12_adds 31 = .ok (.aload_n 0, 1) := by decide +kernel
theorem dX12_adds_32 : decode cX12_adds 32 = .ok (.getfield 50, 3) := by decide +kernel
theorem dX12_adds_35 : decode cX12_adds 35 = .ok (.aload_n 0, 1) := by decide +kernel
theorem dX12_adds_36 : decode cX12_adds 36 = .ok (.getfield 128, 3) := by decide +kernel
theorem dX12_adds_39 : decode cX12_adds 39 = .ok (.aload_n 0, 1) := by decide +kernel
theorem dX12_adds_40 : decode cX12_adds 40 = .ok (.getfield 65, 3) := by decide +kernel
theorem dX12_adds_43 : decode cX12_adds 43 = .ok (.iastore, 1) := by decide +kernel
theorem dX12_adds_44 : decode cX12_adds 44 = .ok (.aload_n 0, 1) := by decide +kernel
theorem dX12_adds_45 : decode cX12_adds 45 = .ok (.getfield 53, 3) := by decide +kernel
theorem dX12_adds_48 : decode cX12_adds 48 = .ok (.aload_n 0, 1) := by decide +kernel
theorem dX12_adds_49 : decode cX12_adds 49 = .ok (.getfield 128, 3) := by decide +kernel
theorem dX12_adds_52 : decode cX12_adds 52 = .ok (.aload_n 0, 1) := by decide +kernel
theorem dX12_adds_53 : decode cX12_adds 53 = .ok (.getfield 69, 3) := by decide +kernel
theorem dX12_adds_56 : decode cX12_adds 56 = .ok (.iastore, 1) := by decide +kernel
theorem dX12_adds_57 : decode cX12_adds 57 = .ok (.aload_n 0, 1) := by decide +kernel
theorem dX12_adds_58 : decode cX12_adds 58 = .ok (.getfield 56, 3) := by decide +kernel
theorem dX12_adds_61 : decode cX12_adds 61 = .ok (.aload_n 0, 1) := by decide +kernel
theorem dX12_adds_62 : decode cX12_adds 62 = .ok (.getfield 128, 3) := by decide +kernel
theorem dX12_adds_65 : decode cX12_adds 65 = .ok (.aload_n 0, 1) := by decide +kernel
theorem dX12_adds_66 : decode cX12_adds 66 = .ok (.getfield 73, 3) := by decide +kernel
theorem dX12_adds_69 : decode cX12_adds 69 = .ok (.iastore, 1) := by decide +kernel
theorem dX12_adds_70 : decode cX12_adds 70 = .ok (.aload_n 0, 1) := by decide +kernel
theorem dX12_adds_71 : decode cX12_adds 71 = .ok (.getfield 59, 3) := by decide +kernel
theorem dX12_adds_74 : decode cX12_adds 74 = .ok (.aload_n 0, 1) := by decide +kernel
theorem dX12_adds_75 : decode cX12_adds 75 = .ok (.getfield 128, 3) := by decide +kernel
theorem dX12_adds_78 : decode cX12_adds 78 = .ok (.aload_n 0, 1) := by decide +kernel
theorem dX12_adds_79 : decode cX12_adds 79 = .ok (.getfield 150, 3) := by decide +kernel
theorem dX12_adds_82 : decode cX12_adds 82 = .ok (.aload_n 0, 1) := by decide +kernel
theorem dX12_adds_83 : decode cX12_adds 83 = .ok (.getfield 76, 3) := by decide +kernel
theorem dX12_adds_86 : decode cX12_adds 86 = .ok (.iadd, 1) := by decide +kernel
theorem dX12_adds_87 : decode cX12_adds 87 = .ok (.iastore, 1) := by decide +kernel
theorem dX12_adds_88 : decode cX12_adds 88 = .ok (.aload_n 0, 1) := by decide +kernel
theorem dX12_adds_89 : decode cX12_adds 89 = .ok (.getfield 62, 3) := by decide +kernel
theorem dX12_adds_92 : decode cX12_adds 92 = .ok (.aload_n 0, 1) := by decide +kernel
theorem dX12_adds_93 : decode cX12_adds 93 = .ok (.getfield 128, 3) := by decide +kernel
theorem dX12_adds_96 : decode cX12_adds 96 = .ok (.aload_n 0, 1) := by decide +kernel
theorem dX12_adds_97 : decode cX12_adds 97 = .ok (.getfield 200, 3) := by decide +kernel
theorem dX12_adds_100 : decode cX12_adds 100 = .ok (.iastore, 1) := by decide +kernel
theorem dX12_adds_101 : decode cX12_adds 101 = .ok (.aload_n 0, 1) := by decide +kernel
theorem dX12_adds_102 : decode cX12_adds 102 = .ok (.getfield 38, 3) := by decide +kernel
theorem dX12_adds_105 : decode cX12_adds 105 = .ok (.aload_n 0, 1) := by decide +kernel
theorem dX12_adds_106 : decode cX12_adds 106 = .ok (.getfield 128, 3) := by decide +kernel
theorem dX12_adds_109 : decode cX12_adds 109 = .ok (.aload_n 0, 1) := by decide +kernel
theorem dX12_adds_110 : decode cX12_adds 110 = .ok (.iload_n 1, 1) := by decide +kernel
theorem dX12_adds_111 : decode cX12_adds 111 = .ok (.iconst 0, 1) := by decide +kernel
theorem dX12_adds_112 : decode cX12_adds 112 = .ok (.aload_n 0, 1) := by decide +kernel
theorem dX12_adds_113 : decode cX12_adds 113 = .ok (.getfield 128, 3) := by decide +kernel
theorem dX12_adds_116 : decode cX12_adds 116 = .ok (.invokevirtual 203, 3) := by decide +kernel
theorem dX12_adds_119 : decode cX12_adds 119 = .ok (.iastore, 1) := by decide +kernel
theorem dX12_adds_120 : decode cX12_adds 120 = .ok (.aload_n 0, 1) := by decide +kernel
theorem dX12_adds_121 : decode cX12_adds 121 = .ok (.dup, 1) := by decide +kernel
theorem dX12_adds_122 : decode cX12_adds 122 = .ok (.getfield 128, 3) := by decide +kernel
theorem dX12_adds_125 : decode cX12_adds 125 = .ok (.iconst 1, 1) := by decide +kernel
theorem dX12_adds_126 : decode cX12_adds 126 = .ok (.iadd, 1) := by decide +kernel
theorem dX12_adds_127 : decode cX12_adds 127 = .ok (.putfield 128, 3) := by decide +kernel
theorem dX12_adds_130 : decode cX12_adds 130 = .ok (.aload_n 0, 1) := by decide +kernel
theorem dX12_adds_131 : decode cX12_adds 131 = .ok (.getfield 128, 3) := by decide +kernel
theorem dX12_adds_134 : decode cX12_adds 134 = .ok (.iconst 1, 1) := by decide +kernel
theorem dX12_adds_135 : decode cX12_adds 135 = .ok (.isub, 1) := by decide +kernel
theorem dX12_adds_136 : decode cX12_adds 136 = .ok (.ireturn, 1) := by decide +kernel
theorem dX12_grant_0 : decode cX12_grant 0 = .ok (.iload_n 1, 1) := by decide +kernel
theorem dX12_grant_1 : decode cX12_grant 1 = .ok (.invokestatic 131, 3) := by decide +kernel
theorem dX12_grant_4 : decode cX12_grant 4 = .ok (.ifCond .eq 21, 3) := by decide +kernel
theorem dX12_grant_7 : decode cX12_grant 7 = .ok (.iload_n 2, 1) := by decide +kernel
theorem dX12_grant_8 : decode cX12_grant 8 = .ok (.invokestatic 206, 3) := by decide +kernel
theorem dX12_grant_11 : decode cX12_grant 11 = .ok (.ifCond .eq 14, 3) := by decide +kernel
theorem dX12_grant_14 : decode cX12_grant 14 = .ok (.iload_n 3, 1) := by decide +kernel
theorem dX12_grant_15 : decode cX12_grant 15 = .ok (.invokestatic 206, 3) := by decide +kernel
theorem dX12_grant_18 : decode cX12_grant 18 = .ok (.ifCond .eq 7, 3) := by decide +kernel
theorem dX12_grant_21 : decode cX12_grant 21 = .ok (.iconst 1, 1) := by decide +kernel
theorem dX12_grant_22 : decode cX12_grant 22 = .ok (.goto 4, 3) := by decide +kernel
theorem dX12_grant_25 : decode cX12_grant 25 = .ok (.iconst 0, 1) := by decide +kernel
theorem dX12_grant_26 : decode cX12_grant 26 = .ok (.istore 4, 2) := by decide +kernel
theorem dX12_grant_28 : decode cX12_grant 28 = .ok (.aload_n 0, 1) := by decide +kernel
theorem dX12_grant_29 : decode cX12_grant 29 = .ok (.iload 4, 2) := by decide +kernel
theorem dX12_grant_31 : decode cX12_grant 31 = .ok (.ifCond .ne 7, 3) := by decide +kernel
theorem dX12_grant_34 : decode cX12_grant 34 = .ok (.iconst 1, 1) := by decide +kernel
theorem dX12_grant_35 : decode cX12_grant 35 = .ok (.goto 24, 3) := by decide +kernel
theorem dX12_grant_38 : decode cX12_grant 38 = .ok (.iload_n 2, 1) := by decide +kernel
theorem dX12_grant_39 : decode cX12_grant 39 = .ok (.iload_n 3, 1) := by decide +kernel
theorem dX12_grant_40 : decode cX12_grant 40 = .ok (.if_icmp .ne 7, 3) := by decide +kernel
theorem dX12_grant_43 : decode cX12_grant 43 = .ok (.iconst 2, 1) := by decide +kernel
theorem dX12_grant_44 : decode cX12_grant 44 = .ok (.goto 15, 3) := by decide +kernel
theorem dX12_grant_47 : decode cX12_grant 47 = .ok (.aload_n 0, 1) := by decide +kernel
theorem dX12_grant_48 : decode cX12_grant 48 = .ok (.invokevirtual 209, 3) := by decide +kernel
theorem dX12_grant_51 : decode cX12_grant 51 = .ok (.ifCond .eq 7, 3) := by decide +kernel
theorem dX12_grant_54 : decode cX12_grant 54 = .ok (.iconst 3, 1) := by decide +kernel
theorem dX12_grant_55 : decode cX12_grant 55 = .ok (.goto 4, 3) := by decide +kernel
theorem dX12_grant_58 : decode cX12_grant 58 = .ok (.iconst 0, 1) := by decide +kernel
theorem dX12_grant_59 : decode cX12_grant 59 = .ok (.invokevirtual 143, 3) := by decide +kernel
theorem dX12_grant_62 : decode cX12_grant 62 = .ok (.ifCond .eq 14, 3) := by decide +kernel
theorem dX12_grant_65 : decode cX12_grant 65 = .ok (.aload_n 0, 1) := by decide +kernel
theorem dX12_grant_66 : decode cX12_grant 66 = .ok (.iload_n 1, 1) := by decide +kernel
theorem dX12_grant_67 : decode cX12_grant 67 = .ok (.iload_n 2, 1) := by decide +kernel
theorem dX12_grant_68 : decode cX12_grant 68 = .ok (.iload_n 3, 1) := by decide +kernel
theorem dX12_grant_69 : decode cX12_grant 69 = .ok (.iconst (-1), 1) := by decide +kernel
theorem dX12_grant_70 : decode cX12_grant 70 = .ok (.invokevirtual 213, 3) := by decide +kernel
theorem dX12_grant_73 : decode cX12_grant 73 = .ok (.goto 4, 3) := by decide +kernel
theorem dX12_grant_76 : decode cX12_grant 76 = .ok (.iconst 0, 1) := by decide +kernel
theorem dX12_grant_77 : decode cX12_grant 77 = .ok (.ireturn, 1) := by decide +kernel
theorem dX12_isWithin_0 : decode cX12_isWithin 0 = .ok (.aload_n 0, 1) := by decide +kernel
theorem dX12_isWithin_1 : decode cX12_isWithin 1 = .ok (.getfield 65, 3) := by decide +kernel
theorem dX12_isWithin_4 : decode cX12_isWithin 4 = .ok (.aload_n 0, 1) := by decide +kernel
theorem dX12_isWithin_5 : decode cX12_isWithin 5 = .ok (.getfield 50, 3) := by decide +kernel
theorem dX12_isWithin_8 : decode cX12_isWithin 8 = .ok (.iload_n 1, 1) := by decide +kernel
theorem dX12_isWithin_9 : decode cX12_isWithin 9 = .ok (.iaload, 1) := by decide +kernel
theorem dX12_isWithin_10 : decode cX12_isWithin 10 = .ok (.iconst (-1), 1) := by decide +kernel
theorem dX12_isWithin_11 : decode cX12_isWithin 11 = .ok (.ixor, 1) := by decide +kernel
theorem dX12_isWithin_12 : decode cX12_isWithin 12 = .ok (.iand, 1) := by decide +kernel
theorem dX12_isWithin_13 : decode cX12_isWithin 13 = .ok (.ifCond .ne 33, 3) := by decide +kernel
theorem dX12_isWithin_16 : decode cX12_isWithin 16 = .ok (.aload_n 0, 1) := by decide +kernel
theorem dX12_isWithin_17 : decode cX12_isWithin 17 = .ok (.getfield 69, 3) := by decide +kernel
theorem dX12_isWithin_20 : decode cX12_isWithin 20 = .ok (.aload_n 0, 1) := by decide +kernel
theorem dX12_isWithin_21 : decode cX12_isWithin 21 = .ok (.getfield 53, 3) := by decide +kernel
theorem dX12_isWithin_24 : decode cX12_isWithin 24 = .ok (.iload_n 1, 1) := by decide +kernel
theorem dX12_isWithin_25 : decode cX12_isWithin 25 = .ok (.iaload, 1) := by decide +kernel
theorem dX12_isWithin_26 : decode cX12_isWithin 26 = .ok (.if_icmp .gt 20, 3) := by decide +kernel
theorem dX12_isWithin_29 : decode cX12_isWithin 29 = .ok (.aload_n 0, 1) := by decide +kernel
theorem dX12_isWithin_30 : decode cX12_isWithin 30 = .ok (.getfield 73, 3) := by decide +kernel
theorem dX12_isWithin_33 : decode cX12_isWithin 33 = .ok (.aload_n 0, 1) := by decide +kernel
theorem dX12_isWithin_34 : decode cX12_isWithin 34 = .ok (.getfield 56, 3) := by decide +kernel
theorem dX12_isWithin_37 : decode cX12_isWithin 37 = .ok (.iload_n 1, 1) := by decide +kernel
theorem dX12_isWithin_38 : decode cX12_isWithin 38 = .ok (.iaload, 1) := by decide +kernel
theorem dX12_isWithin_39 : decode cX12_isWithin 39 = .ok (.if_icmp .gt 7, 3) := by decide +kernel
theorem dX12_isWithin_42 : decode cX12_isWithin 42 = .ok (.iconst 1, 1) := by decide +kernel
theorem dX12_isWithin_43 : decode cX12_isWithin 43 = .ok (.goto 4, 3) := by decide +kernel
theorem dX12_isWithin_46 : decode cX12_isWithin 46 = .ok (.iconst 0, 1) := by decide +kernel
theorem dX12_isWithin_47 : decode cX12_isWithin 47 = .ok (.istore_n 2, 1) := by decide +kernel
theorem dX12_isWithin_48 : decode cX12_isWithin 48 = .ok (.iload_n 2, 1) := by decide +kernel
theorem dX12_isWithin_49 : decode cX12_isWithin 49 = .ok (.ifCond .eq 38, 3) := by decide +kernel
theorem dX12_isWithin_52 : decode cX12_isWithin 52 = .ok (.aload_n 0, 1) := by decide +kernel
theorem dX12_isWithin_53 : decode cX12_isWithin 53 = .ok (.getfield 150, 3) := by decide +kernel
theorem dX12_isWithin_56 : decode cX12_isWithin 56 = .ok (.aload_n 0, 1) := by decide +kernel
theorem dX12_isWithin_57 : decode cX12_isWithin 57 = .ok (.getfield 76, 3) := by decide +kernel
theorem dX12_isWithin_60 : decode cX12_isWithin 60 = .ok (.iadd, 1) := by decide +kernel
theorem dX12_isWithin_61 : decode cX12_isWithin 61 = .ok (.aload_n 0, 1) := by decide +kernel
theorem dX12_isWithin_62 : decode cX12_isWithin 62 = .ok (.getfield 59, 3) := by decide +kernel
theorem dX12_isWithin_65 : decode cX12_isWithin 65 = .ok (.iload_n 1, 1) := by decide +kernel
theorem dX12_isWithin_66 : decode cX12_isWithin 66 = .ok (.iaload, 1) := by decide +kernel
theorem dX12_isWithin_67 : decode cX12_isWithin 67 = .ok (.if_icmp .gt 20, 3) := by decide +kernel
theorem dX12_isWithin_70 : decode cX12_isWithin 70 = .ok (.aload_n 0, 1) := by decide +kernel
theorem dX12_isWithin_71 : decode cX12_isWithin 71 = .ok (.getfield 200, 3) := by decide +kernel
theorem dX12_isWithin_74 : decode cX12_isWithin 74 = .ok (.aload_n 0, 1) := by decide +kernel
theorem dX12_isWithin_75 : decode cX12_isWithin 75 = .ok (.getfield 62, 3) := by decide +kernel
theorem dX12_isWithin_78 : decode cX12_isWithin 78 = .ok (.iload_n 1, 1) := by decide +kernel
theorem dX12_isWithin_79 : decode cX12_isWithin 79 = .ok (.iaload, 1) := by decide +kernel
theorem dX12_isWithin_80 : decode cX12_isWithin 80 = .ok (.if_icmp .ge 7, 3) := by decide +kernel
theorem dX12_isWithin_83 : decode cX12_isWithin 83 = .ok (.iconst 1, 1) := by decide +kernel
theorem dX12_isWithin_84 : decode cX12_isWithin 84 = .ok (.goto 4, 3) := by decide +kernel
theorem dX12_isWithin_87 : decode cX12_isWithin 87 = .ok (.iconst 0, 1) := by decide +kernel
theorem dX12_isWithin_88 : decode cX12_isWithin 88 = .ok (.ireturn, 1) := by decide +kernel
theorem dX12_errorOfPassOn_0 : decode cX12_errorOfPassOn 0 = .ok (.iload_n 1, 1) := by decide +kernel
theorem dX12_errorOfPassOn_1 : decode cX12_errorOfPassOn 1 = .ok (.invokestatic 131, 3) := by decide +kernel
theorem dX12_errorOfPassOn_4 : decode cX12_errorOfPassOn 4 = .ok (.ifCond .eq 18, 3) := by decide +kernel
theorem dX12_errorOfPassOn_7 : decode cX12_errorOfPassOn 7 = .ok (.aload_n 0, 1) := by decide +kernel
theorem dX12_errorOfPassOn_8 : decode cX12_errorOfPassOn 8 = .ok (.iload_n 2, 1) := by decide +kernel
theorem dX12_errorOfPassOn_9 : decode cX12_errorOfPassOn 9 = .ok (.invokevirtual 217, 3) := by decide +kernel
theorem dX12_errorOfPassOn_12 : decode cX12_errorOfPassOn 12 = .ok (.ifCond .eq 10, 3) := by decide +kernel
theorem dX12_errorOfPassOn_15 : decode cX12_errorOfPassOn 15 = .ok (.iload_n 3, 1) := by decide +kernel
theorem dX12_errorOfPassOn_16 : decode cX12_errorOfPassOn 16 = .ok (.invokestatic 206, 3) := by decide +kernel
theorem dX12_errorOfPassOn_19 : decode cX12_errorOfPassOn 19 = .ok (.ifCond .ne 5, 3) := by decide +kernel
theorem dX12_errorOfPassOn_22 : decode cX12_errorOfPassOn 22 = .ok (.iconst 1, 1) := by decide +kernel
theorem dX12_errorOfPassOn_23 : decode cX12_errorOfPassOn 23 = .ok (.ireturn, 1) := by decide +kernel
theorem dX12_errorOfPassOn_24 : decode cX12_errorOfPassOn 24 = .ok (.aload_n 0, 1) := by decide +kernel
theorem dX12_errorOfPassOn_25 : decode cX12_errorOfPassOn 25 = .ok (.getfield 44, 3) := by decide +kernel
theorem dX12_errorOfPassOn_28 : decode cX12_errorOfPassOn 28 = .ok (.iload_n 2, 1) := by decide +kernel
theorem dX12_errorOfPassOn_29 : decode cX12_errorOfPassOn 29 = .ok (.iaload, 1) := by decide +kernel
theorem dX12_errorOfPassOn_30 : decode cX12_errorOfPassOn 30 = .ok (.iload_n 3, 1) := by decide +kernel
theorem dX12_errorOfPassOn_31 : decode cX12_errorOfPassOn 31 = .ok (.if_icmp .eq 11, 3) := by decide +kernel
theorem dX12_errorOfPassOn_34 : decode cX12_errorOfPassOn 34 = .ok (.aload_n 0, 1) := by decide +kernel
theorem dX12_errorOfPassOn_35 : decode cX12_errorOfPassOn 35 = .ok (.iload_n 2, 1) := by decide +kernel
theorem dX12_errorOfPassOn_36 : decode cX12_errorOfPassOn 36 = .ok (.invokevirtual 220, 3) := by decide +kernel
theorem dX12_errorOfPassOn_39 : decode cX12_errorOfPassOn 39 = .ok (.ifCond .ne 7, 3) := by decide +kernel
theorem dX12_errorOfPassOn_42 : decode cX12_errorOfPassOn 42 = .ok (.iconst 2, 1) := by decide +kernel
theorem dX12_errorOfPassOn_43 : decode cX12_errorOfPassOn 43 = .ok (.goto 24, 3) := by decide +kernel
theorem dX12_errorOfPassOn_46 : decode cX12_errorOfPassOn 46 = .ok (.aload_n 0, 1) := by decide +kernel
theorem dX12_errorOfPassOn_47 : decode cX12_errorOfPassOn 47 = .ok (.invokevirtual 209, 3) := by decide +kernel
theorem dX12_errorOfPassOn_50 : decode cX12_errorOfPassOn 50 = .ok (.ifCond .ne 12, 3) := by decide +kernel
theorem dX12_errorOfPassOn_53 : decode cX12_errorOfPassOn 53 = .ok (.aload_n 0, 1) := by decide +kernel
theorem dX12_errorOfPassOn_54 : decode cX12_errorOfPassOn 54 = .ok (.iload_n 1, 1) := by decide +kernel
theorem dX12_errorOfPassOn_55 : decode cX12_errorOfPassOn 55 = .ok (.iload_n 2, 1) := by decide +kernel
theorem dX12_errorOfPassOn_56 : decode cX12_errorOfPassOn 56 = .ok (.invokevirtual 223, 3) := by decide +kernel
theorem dX12_errorOfPassOn_59 : decode cX12_errorOfPassOn 59 = .ok (.ifCond .ne 7, 3) := by decide +kernel
theorem dX12_errorOfPassOn_62 : decode cX12_errorOfPassOn 62 = .ok (.iconst 3, 1) := by decide +kernel
theorem dX12_errorOfPassOn_63 : decode cX12_errorOfPassOn 63 = .ok (.goto 4, 3) := by decide +kernel
theorem dX12_errorOfPassOn_66 : decode cX12_errorOfPassOn 66 = .ok (.iconst 0, 1) := by decide +kernel
theorem dX12_errorOfPassOn_67 : decode cX12_errorOfPassOn 67 = .ok (.ireturn, 1) := by decide +kernel
theorem dX12_passOn_0 : decode cX12_passOn 0 = .ok (.aload_n 0, 1) := by decide +kernel
theorem dX12_passOn_1 : decode cX12_passOn 1 = .ok (.aload_n 0, 1) := by decide +kernel
theorem dX12_passOn_2 : decode cX12_passOn 2 = .ok (.iload_n 1, 1) := by decide +kernel
theorem dX12_passOn_3 : decode cX12_passOn 3 = .ok (.iload_n 2, 1) := by decide +kernel
theorem dX12_passOn_4 : decode cX12_passOn 4 = .ok (.iload_n 3, 1) := by decide +kernel
theorem dX12_passOn_5 : decode cX12_passOn 5 = .ok (.invokevirtual 226, 3) := by decide +kernel
theorem dX12_passOn_8 : decode cX12_passOn 8 = .ok (.invokevirtual 143, 3) := by decide +kernel
theorem dX12_passOn_11 : decode cX12_passOn 11 = .ok (.ifCond .eq 19, 3) := by decide +kernel
theorem dX12_passOn_14 : decode cX12_passOn 14 = .ok (.aload_n 0, 1) := by decide +kernel
theorem dX12_passOn_15 : decode cX12_passOn 15 = .ok (.iload_n 1, 1) := by decide +kernel
theorem dX12_passOn_16 : decode cX12_passOn 16 = .ok (.aload_n 0, 1) := by decide +kernel
theorem dX12_passOn_17 : decode cX12_passOn 17 = .ok (.getfield 44, 3) := by decide +kernel
theorem dX12_passOn_20 : decode cX12_passOn 20 = .ok (.iload_n 2, 1) := by decide +kernel
theorem dX12_passOn_21 : decode cX12_passOn 21 = .ok (.iaload, 1) := by decide +kernel
theorem dX12_passOn_22 : decode cX12_passOn 22 = .ok (.iload_n 3, 1) := by decide +kernel
theorem dX12_passOn_23 : decode cX12_passOn 23 = .ok (.iload_n 2, 1) := by decide +kernel
theorem dX12_passOn_24 : decode cX12_passOn 24 = .ok (.invokevirtual 213, 3) := by decide +kernel
theorem dX12_passOn_27 : decode cX12_passOn 27 = .ok (.goto 4, 3) := by decide +kernel
theorem dX12_passOn_30 : decode cX12_passOn 30 = .ok (.iconst 0, 1) := by decide +kernel
theorem dX12_passOn_31 : decode cX12_passOn 31 = .ok (.ireturn, 1) := by decide +kernel
theorem dX12_isGiver_0 : decode cX12_isGiver 0 = .ok (.iload_n 2, 1) := by decide +kernel
theorem dX12_isGiver_1 : decode cX12_isGiver 1 = .ok (.istore_n 3, 1) := by decide +kernel
theorem dX12_isGiver_2 : decode cX12_isGiver 2 = .ok (.iload_n 3, 1) := by decide +kernel
theorem dX12_isGiver_3 : decode cX12_isGiver 3 = .ok (.iconst (-1), 1) := by decide +kernel
theorem dX12_isGiver_4 : decode cX12_isGiver 4 = .ok (.if_icmp .eq 25, 3) := by decide +kernel
theorem dX12_isGiver_7 : decode cX12_isGiver 7 = .ok (.aload_n 0, 1) := by decide +kernel
theorem dX12_isGiver_8 : decode cX12_isGiver 8 = .ok (.getfield 41, 3) := by decide +kernel
theorem dX12_isGiver_11 : decode cX12_isGiver 11 = .ok (.iload_n 3, 1) := by decide +kernel
theorem dX12_isGiver_12 : decode cX12_isGiver 12 = .ok (.iaload, 1) := by decide +kernel
theorem dX12_isGiver_13 : decode cX12_isGiver 13 = .ok (.iload_n 1, 1) := by decide +kernel
theorem dX12_isGiver_14 : decode cX12_isGiver 14 = .ok (.if_icmp .ne 5, 3) := by decide +kernel
theorem dX12_isGiver_17 : decode cX12_isGiver 17 = .ok (.iconst 1, 1) := by decide +kernel
theorem dX12_isGiver_18 : decode cX12_isGiver 18 = .ok (.ireturn, 1) := by decide +kernel
theorem dX12_isGiver_19 : decode cX12_isGiver 19 = .ok (.aload_n 0, 1) := by decide +kernel
theorem dX12_isGiver_20 : decode cX12_isGiver 20 = .ok (.getfield 47, 3) := by decide +kernel
theorem dX12_isGiver_23 : decode cX12_isGiver 23 = .ok (.iload_n 3, 1) := by decide +kernel
theorem dX12_isGiver_24 : decode cX12_isGiver 24 = .ok (.iaload, 1) := by decide +kernel
theorem dX12_isGiver_25 : decode cX12_isGiver 25 = .ok (.istore_n 3, 1) := by decide +kernel
theorem dX12_isGiver_26 : decode cX12_isGiver 26 = .ok (.goto (-24), 3) := by decide +kernel
theorem dX12_isGiver_29 : decode cX12_isGiver 29 = .ok (.iconst 0, 1) := by decide +kernel
theorem dX12_isGiver_30 : decode cX12_isGiver 30 = .ok (.ireturn, 1) := by decide +kernel
theorem dX12_errorOfRevoke_0 : decode cX12_errorOfRevoke 0 = .ok (.iload_n 1, 1) := by decide +kernel
theorem dX12_errorOfRevoke_1 : decode cX12_errorOfRevoke 1 = .ok (.invokestatic 131, 3) := by decide +kernel
theorem dX12_errorOfRevoke_4 : decode cX12_errorOfRevoke 4 = .ok (.ifCond .eq 18, 3) := by decide +kernel
theorem dX12_errorOfRevoke_7 : decode cX12_errorOfRevoke 7 = .ok (.iload_n 2, 1) := by decide +kernel
theorem dX12_errorOfRevoke_8 : decode cX12_errorOfRevoke 8 = .ok (.invokestatic 206, 3) := by decide +kernel
theorem dX12_errorOfRevoke_11 : decode cX12_errorOfRevoke 11 = .ok (.ifCond .eq 11, 3) := by decide +kernel
theorem dX12_errorOfRevoke_14 : decode cX12_errorOfRevoke 14 = .ok (.aload_n 0, 1) := by decide +kernel
theorem dX12_errorOfRevoke_15 : decode cX12_errorOfRevoke 15 = .ok (.iload_n 3, 1) := by decide +kernel
theorem dX12_errorOfRevoke_16 : decode cX12_errorOfRevoke 16 = .ok (.invokevirtual 217, 3) := by decide +kernel
theorem dX12_errorOfRevoke_19 : decode cX12_errorOfRevoke 19 = .ok (.ifCond .ne 5, 3) := by decide +kernel
theorem dX12_errorOfRevoke_22 : decode cX12_errorOfRevoke 22 = .ok (.iconst 1, 1) := by decide +kernel
theorem dX12_errorOfRevoke_23 : decode cX12_errorOfRevoke 23 = .ok (.ireturn, 1) := by decide +kernel
theorem dX12_errorOfRevoke_24 : decode cX12_errorOfRevoke 24 = .ok (.aload_n 0, 1) := by decide +kernel
theorem dX12_errorOfRevoke_25 : decode cX12_errorOfRevoke 25 = .ok (.iload_n 2, 1) := by decide +kernel
theorem dX12_errorOfRevoke_26 : decode cX12_errorOfRevoke 26 = .ok (.iload_n 3, 1) := by decide +kernel
theorem dX12_errorOfRevoke_27 : decode cX12_errorOfRevoke 27 = .ok (.invokevirtual 229, 3) := by decide +kernel
theorem dX12_errorOfRevoke_30 : decode cX12_errorOfRevoke 30 = .ok (.ifCond .ne 7, 3) := by decide +kernel
theorem dX12_errorOfRevoke_33 : decode cX12_errorOfRevoke 33 = .ok (.iconst 2, 1) := by decide +kernel
theorem dX12_errorOfRevoke_34 : decode cX12_errorOfRevoke 34 = .ok (.goto 36, 3) := by decide +kernel
theorem dX12_errorOfRevoke_37 : decode cX12_errorOfRevoke 37 = .ok (.aload_n 0, 1) := by decide +kernel
theorem dX12_errorOfRevoke_38 : decode cX12_errorOfRevoke 38 = .ok (.getfield 153, 3) := by decide +kernel
theorem dX12_errorOfRevoke_41 : decode cX12_errorOfRevoke 41 = .ok (.sipush 160, 3) := by decide +kernel
theorem dX12_errorOfRevoke_44 : decode cX12_errorOfRevoke 44 = .ok (.if_icmp .eq 21, 3) := by decide +kernel
theorem dX12_errorOfRevoke_47 : decode cX12_errorOfRevoke 47 = .ok (.aload_n 0, 1) := by decide +kernel
theorem dX12_errorOfRevoke_48 : decode cX12_errorOfRevoke 48 = .ok (.iload_n 1, 1) := by decide +kernel
theorem dX12_errorOfRevoke_49 : decode cX12_errorOfRevoke 49 = .ok (.iload_n 3, 1) := by decide +kernel
theorem dX12_errorOfRevoke_50 : decode cX12_errorOfRevoke 50 = .ok (.invokevirtual 172, 3) := by decide +kernel
theorem dX12_errorOfRevoke_53 : decode cX12_errorOfRevoke 53 = .ok (.ifCond .eq 12, 3) := by decide +kernel
theorem dX12_errorOfRevoke_56 : decode cX12_errorOfRevoke 56 = .ok (.aload_n 0, 1) := by decide +kernel
theorem dX12_errorOfRevoke_57 : decode cX12_errorOfRevoke 57 = .ok (.iload_n 1, 1) := by decide +kernel
theorem dX12_errorOfRevoke_58 : decode cX12_errorOfRevoke 58 = .ok (.iload_n 3, 1) := by decide +kernel
theorem dX12_errorOfRevoke_59 : decode cX12_errorOfRevoke 59 = .ok (.invokevirtual 175, 3) := by decide +kernel
theorem dX12_errorOfRevoke_62 : decode cX12_errorOfRevoke 62 = .ok (.ifCond .eq 7, 3) := by decide +kernel
theorem dX12_errorOfRevoke_65 : decode cX12_errorOfRevoke 65 = .ok (.iconst 3, 1) := by decide +kernel
theorem dX12_errorOfRevoke_66 : decode cX12_errorOfRevoke 66 = .ok (.goto 4, 3) := by decide +kernel
theorem dX12_errorOfRevoke_69 : decode cX12_errorOfRevoke 69 = .ok (.iconst 0, 1) := by decide +kernel
theorem dX12_errorOfRevoke_70 : decode cX12_errorOfRevoke 70 = .ok (.ireturn, 1) := by decide +kernel
theorem dX12_revoke_0 : decode cX12_revoke 0 = .ok (.aload_n 0, 1) := by decide +kernel
theorem dX12_revoke_1 : decode cX12_revoke 1 = .ok (.aload_n 0, 1) := by decide +kernel
theorem dX12_revoke_2 : decode cX12_revoke 2 = .ok (.iload_n 1, 1) := by decide +kernel
theorem dX12_revoke_3 : decode cX12_revoke 3 = .ok (.iload_n 2, 1) := by decide +kernel
theorem dX12_revoke_4 : decode cX12_revoke 4 = .ok (.iload_n 3, 1) := by decide +kernel
theorem dX12_revoke_5 : decode cX12_revoke 5 = .ok (.invokevirtual 232, 3) := by decide +kernel
theorem dX12_revoke_8 : decode cX12_revoke 8 = .ok (.invokevirtual 143, 3) := by decide +kernel
theorem dX12_revoke_11 : decode cX12_revoke 11 = .ok (.ifCond .eq 13, 3) := by decide +kernel
theorem dX12_revoke_14 : decode cX12_revoke 14 = .ok (.aload_n 0, 1) := by decide +kernel
theorem dX12_revoke_15 : decode cX12_revoke 15 = .ok (.iload_n 1, 1) := by decide +kernel
theorem dX12_revoke_16 : decode cX12_revoke 16 = .ok (.iconst 1, 1) := by decide +kernel
theorem dX12_revoke_17 : decode cX12_revoke 17 = .ok (.iload_n 3, 1) := by decide +kernel
theorem dX12_revoke_18 : decode cX12_revoke 18 = .ok (.invokevirtual 203, 3) := by decide +kernel
theorem dX12_revoke_21 : decode cX12_revoke 21 = .ok (.goto 4, 3) := by decide +kernel
theorem dX12_revoke_24 : decode cX12_revoke 24 = .ok (.iconst 0, 1) := by decide +kernel
theorem dX12_revoke_25 : decode cX12_revoke 25 = .ok (.ireturn, 1) := by decide +kernel
theorem dX12_isDeputed_0 : decode cX12_isDeputed 0 = .ok (.iconst 0, 1) := by decide +kernel
theorem dX12_isDeputed_1 : decode cX12_isDeputed 1 = .ok (.istore 4, 2) := by decide +kernel
theorem dX12_isDeputed_3 : decode cX12_isDeputed 3 = .ok (.iload 4, 2) := by decide +kernel
theorem dX12_isDeputed_5 : decode cX12_isDeputed 5 = .ok (.aload_n 0, 1) := by decide +kernel
theorem dX12_isDeputed_6 : decode cX12_isDeputed 6 = .ok (.getfield 153, 3) := by decide +kernel
theorem dX12_isDeputed_9 : decode cX12_isDeputed 9 = .ok (.if_icmp .ge 55, 3) := by decide +kernel
theorem dX12_isDeputed_12 : decode cX12_isDeputed 12 = .ok (.aload_n 0, 1) := by decide +kernel
theorem dX12_isDeputed_13 : decode cX12_isDeputed 13 = .ok (.getfield 13, 3) := by decide +kernel
theorem dX12_isDeputed_16 : decode cX12_isDeputed 16 = .ok (.iload 4, 2) := by decide +kernel
theorem dX12_isDeputed_18 : decode cX12_isDeputed 18 = .ok (.iaload, 1) := by decide +kernel
theorem dX12_isDeputed_19 : decode cX12_isDeputed 19 = .ok (.iconst 2, 1) := by decide +kernel
theorem dX12_isDeputed_20 : decode cX12_isDeputed 20 = .ok (.if_icmp .ne 38, 3) := by decide +kernel
theorem dX12_isDeputed_23 : decode cX12_isDeputed 23 = .ok (.aload_n 0, 1) := by decide +kernel
theorem dX12_isDeputed_24 : decode cX12_isDeputed 24 = .ok (.getfield 22, 3) := by decide +kernel
theorem dX12_isDeputed_27 : decode cX12_isDeputed 27 = .ok (.iload 4, 2) := by decide +kernel
theorem dX12_isDeputed_29 : decode cX12_isDeputed 29 = .ok (.iaload, 1) := by decide +kernel
theorem dX12_isDeputed_30 : decode cX12_isDeputed 30 = .ok (.iload_n 1, 1) := by decide +kernel
theorem dX12_isDeputed_31 : decode cX12_isDeputed 31 = .ok (.if_icmp .ne 27, 3) := by decide +kernel
theorem dX12_isDeputed_34 : decode cX12_isDeputed 34 = .ok (.aload_n 0, 1) := by decide +kernel
theorem dX12_isDeputed_35 : decode cX12_isDeputed 35 = .ok (.getfield 25, 3) := by decide +kernel
theorem dX12_isDeputed_38 : decode cX12_isDeputed 38 = .ok (.iload 4, 2) := by decide +kernel
theorem dX12_isDeputed_40 : decode cX12_isDeputed 40 = .ok (.iaload, 1) := by decide +kernel
theorem dX12_isDeputed_41 : decode cX12_isDeputed 41 = .ok (.iload_n 3, 1) := by decide +kernel
theorem dX12_isDeputed_42 : decode cX12_isDeputed 42 = .ok (.if_icmp .gt 16, 3) := by decide +kernel
theorem dX12_isDeputed_45 : decode cX12_isDeputed 45 = .ok (.aload_n 0, 1) := by decide +kernel
theorem dX12_isDeputed_46 : decode cX12_isDeputed 46 = .ok (.getfield 28, 3) := by decide +kernel
theorem dX12_isDeputed_49 : decode cX12_isDeputed 49 = .ok (.iload 4, 2) := by decide +kernel
theorem dX12_isDeputed_51 : decode cX12_isDeputed 51 = .ok (.iaload, 1) := by decide +kernel
theorem dX12_isDeputed_52 : decode cX12_isDeputed 52 = .ok (.iload_n 2, 1) := by decide +kernel
theorem dX12_isDeputed_53 : decode cX12_isDeputed 53 = .ok (.if_icmp .lt 5, 3) := by decide +kernel
theorem dX12_isDeputed_56 : decode cX12_isDeputed 56 = .ok (.iconst 1, 1) := by decide +kernel
theorem dX12_isDeputed_57 : decode cX12_isDeputed 57 = .ok (.ireturn, 1) := by decide +kernel
theorem dX12_isDeputed_58 : decode cX12_isDeputed 58 = .ok (.iinc 4 1, 3) := by decide +kernel
theorem dX12_isDeputed_61 : decode cX12_isDeputed 61 = .ok (.goto (-58), 3) := by decide +kernel
theorem dX12_isDeputed_64 : decode cX12_isDeputed 64 = .ok (.iconst 0, 1) := by decide +kernel
theorem dX12_isDeputed_65 : decode cX12_isDeputed 65 = .ok (.ireturn, 1) := by decide +kernel
theorem dX12_errorOfDepute_0 : decode cX12_errorOfDepute 0 = .ok (.iload_n 1, 1) := by decide +kernel
theorem dX12_errorOfDepute_1 : decode cX12_errorOfDepute 1 = .ok (.invokestatic 131, 3) := by decide +kernel
theorem dX12_errorOfDepute_4 : decode cX12_errorOfDepute 4 = .ok (.ifCond .ne 5, 3) := by decide +kernel
theorem dX12_errorOfDepute_7 : decode cX12_errorOfDepute 7 = .ok (.iconst 1, 1) := by decide +kernel
theorem dX12_errorOfDepute_8 : decode cX12_errorOfDepute 8 = .ok (.ireturn, 1) := by decide +kernel
theorem dX12_errorOfDepute_9 : decode cX12_errorOfDepute 9 = .ok (.iload_n 2, 1) := by decide +kernel
theorem dX12_errorOfDepute_10 : decode cX12_errorOfDepute 10 = .ok (.iconst 0, 1) := by decide +kernel
theorem dX12_errorOfDepute_11 : decode cX12_errorOfDepute 11 = .ok (.bipush 100, 2) := by decide +kernel
theorem dX12_errorOfDepute_13 : decode cX12_errorOfDepute 13 = .ok (.invokestatic 124, 3) := by decide +kernel
theorem dX12_errorOfDepute_16 : decode cX12_errorOfDepute 16 = .ok (.ifCond .eq 17, 3) := by decide +kernel
theorem dX12_errorOfDepute_19 : decode cX12_errorOfDepute 19 = .ok (.iload_n 3, 1) := by decide +kernel
theorem dX12_errorOfDepute_20 : decode cX12_errorOfDepute 20 = .ok (.iconst 0, 1) := by decide +kernel
theorem dX12_errorOfDepute_21 : decode cX12_errorOfDepute 21 = .ok (.bipush 100, 2) := by decide +kernel
theorem dX12_errorOfDepute_23 : decode cX12_errorOfDepute 23 = .ok (.invokestatic 124, 3) := by decide +kernel
theorem dX12_errorOfDepute_26 : decode cX12_errorOfDepute 26 = .ok (.ifCond .eq 7, 3) := by decide +kernel
theorem dX12_errorOfDepute_29 : decode cX12_errorOfDepute 29 = .ok (.iconst 1, 1) := by decide +kernel
theorem dX12_errorOfDepute_30 : decode cX12_errorOfDepute 30 = .ok (.goto 4, 3) := by decide +kernel
theorem dX12_errorOfDepute_33 : decode cX12_errorOfDepute 33 = .ok (.iconst 0, 1) := by decide +kernel
theorem dX12_errorOfDepute_34 : decode cX12_errorOfDepute 34 = .ok (.istore 4, 2) := by decide +kernel
theorem dX12_errorOfDepute_36 : decode cX12_errorOfDepute 36 = .ok (.iload 4, 2) := by decide +kernel
theorem dX12_errorOfDepute_38 : decode cX12_errorOfDepute 38 = .ok (.ifCond .ne 7, 3) := by decide +kernel
theorem dX12_errorOfDepute_41 : decode cX12_errorOfDepute 41 = .ok (.iconst 2, 1) := by decide +kernel
theorem dX12_errorOfDepute_42 : decode cX12_errorOfDepute 42 = .ok (.goto 40, 3) := by decide +kernel
theorem dX12_errorOfDepute_45 : decode cX12_errorOfDepute 45 = .ok (.aload_n 0, 1) := by decide +kernel
theorem dX12_errorOfDepute_46 : decode cX12_errorOfDepute 46 = .ok (.getfield 153, 3) := by decide +kernel
theorem dX12_errorOfDepute_49 : decode cX12_errorOfDepute 49 = .ok (.sipush 160, 3) := by decide +kernel
theorem dX12_errorOfDepute_52 : decode cX12_errorOfDepute 52 = .ok (.if_icmp .eq 25, 3) := by decide +kernel
theorem dX12_errorOfDepute_55 : decode cX12_errorOfDepute 55 = .ok (.aload_n 0, 1) := by decide +kernel
theorem dX12_errorOfDepute_56 : decode cX12_errorOfDepute 56 = .ok (.iload_n 1, 1) := by decide +kernel
theorem dX12_errorOfDepute_57 : decode cX12_errorOfDepute 57 = .ok (.aload_n 0, 1) := by decide +kernel
theorem dX12_errorOfDepute_58 : decode cX12_errorOfDepute 58 = .ok (.getfield 150, 3) := by decide +kernel
theorem dX12_errorOfDepute_61 : decode cX12_errorOfDepute 61 = .ok (.iload_n 2, 1) := by decide +kernel
theorem dX12_errorOfDepute_62 : decode cX12_errorOfDepute 62 = .ok (.iadd, 1) := by decide +kernel
theorem dX12_errorOfDepute_63 : decode cX12_errorOfDepute 63 = .ok (.aload_n 0, 1) := by decide +kernel
theorem dX12_errorOfDepute_64 : decode cX12_errorOfDepute 64 = .ok (.getfield 150, 3) := by decide +kernel
theorem dX12_errorOfDepute_67 : decode cX12_errorOfDepute 67 = .ok (.iload_n 2, 1) := by decide +kernel
theorem dX12_errorOfDepute_68 : decode cX12_errorOfDepute 68 = .ok (.iadd, 1) := by decide +kernel
theorem dX12_errorOfDepute_69 : decode cX12_errorOfDepute 69 = .ok (.iload_n 3, 1) := by decide +kernel
theorem dX12_errorOfDepute_70 : decode cX12_errorOfDepute 70 = .ok (.iadd, 1) := by decide +kernel
theorem dX12_errorOfDepute_71 : decode cX12_errorOfDepute 71 = .ok (.invokevirtual 235, 3) := by decide +kernel
theorem dX12_errorOfDepute_74 : decode cX12_errorOfDepute 74 = .ok (.ifCond .eq 7, 3) := by decide +kernel
theorem dX12_errorOfDepute_77 : decode cX12_errorOfDepute 77 = .ok (.iconst 3, 1) := by decide +kernel
theorem dX12_errorOfDepute_78 : decode cX12_errorOfDepute 78 = .ok (.goto 4, 3) := by decide +kernel
theorem dX12_errorOfDepute_81 : decode cX12_errorOfDepute 81 = .ok (.iconst 0, 1) := by decide +kernel
theorem dX12_errorOfDepute_82 : decode cX12_errorOfDepute 82 = .ok (.ireturn, 1) := by decide +kernel
theorem dX12_depute_0 : decode cX12_depute 0 = .ok (.aload_n 0, 1) := by decide +kernel
theorem dX12_depute_1 : decode cX12_depute 1 = .ok (.aload_n 0, 1) := by decide +kernel
theorem dX12_depute_2 : decode cX12_depute 2 = .ok (.iload_n 1, 1) := by decide +kernel
theorem dX12_depute_3 : decode cX12_depute 3 = .ok (.iload_n 2, 1) := by decide +kernel
theorem dX12_depute_4 : decode cX12_depute 4 = .ok (.iload_n 3, 1) := by decide +kernel
theorem dX12_depute_5 : decode cX12_depute 5 = .ok (.invokevirtual 238, 3) := by decide +kernel
theorem dX12_depute_8 : decode cX12_depute 8 = .ok (.invokevirtual 143, 3) := by decide +kernel
theorem dX12_depute_11 : decode cX12_depute 11 = .ok (.ifCond .ne 5, 3) := by decide +kernel
theorem dX12_depute_14 : decode cX12_depute 14 = .ok (.iconst 0, 1) := by decide +kernel
theorem dX12_depute_15 : decode cX12_depute 15 = .ok (.ireturn, 1) := by decide +kernel
theorem dX12_depute_16 : decode cX12_depute 16 = .ok (.aload_n 0, 1) := by decide +kernel
theorem dX12_depute_17 : decode cX12_depute 17 = .ok (.getfield 25, 3) := by decide +kernel
theorem dX12_depute_20 : decode cX12_depute 20 = .ok (.aload_n 0, 1) := by decide +kernel
theorem dX12_depute_21 : decode cX12_depute 21 = .ok (.getfield 153, 3) := by decide +kernel
theorem dX12_depute_24 : decode cX12_depute 24 = .ok (.aload_n 0, 1) := by decide +kernel
theorem dX12_depute_25 : decode cX12_depute 25 = .ok (.getfield 150, 3) := by decide +kernel
theorem dX12_depute_28 : decode cX12_depute 28 = .ok (.iload_n 2, 1) := by decide +kernel
theorem dX12_depute_29 : decode cX12_depute 29 = .ok (.iadd, 1) := by decide +kernel
theorem dX12_depute_30 : decode cX12_depute 30 = .ok (.iastore, 1) := by decide +kernel
theorem dX12_depute_31 : decode cX12_depute 31 = .ok (.aload_n 0, 1) := by decide +kernel
theorem dX12_depute_32 : decode cX12_depute 32 = .ok (.getfield 28, 3) := by decide +kernel
theorem dX12_depute_35 : decode cX12_depute 35 = .ok (.aload_n 0, 1) := by decide +kernel
theorem dX12_depute_36 : decode cX12_depute 36 = .ok (.getfield 153, 3) := by decide +kernel
theorem dX12_depute_39 : decode cX12_depute 39 = .ok (.aload_n 0, 1) := by decide +kernel
theorem dX12_depute_40 : decode cX12_depute 40 = .ok (.getfield 150, 3) := by decide +kernel
theorem dX12_depute_43 : decode cX12_depute 43 = .ok (.iload_n 2, 1) := by decide +kernel
theorem dX12_depute_44 : decode cX12_depute 44 = .ok (.iadd, 1) := by decide +kernel
theorem dX12_depute_45 : decode cX12_depute 45 = .ok (.iload_n 3, 1) := by decide +kernel
theorem dX12_depute_46 : decode cX12_depute 46 = .ok (.iadd, 1) := by decide +kernel
theorem dX12_depute_47 : decode cX12_depute 47 = .ok (.iastore, 1) := by decide +kernel
theorem dX12_depute_48 : decode cX12_depute 48 = .ok (.aload_n 0, 1) := by decide +kernel
theorem dX12_depute_49 : decode cX12_depute 49 = .ok (.iconst 0, 1) := by decide +kernel
theorem dX12_depute_50 : decode cX12_depute 50 = .ok (.iconst 2, 1) := by decide +kernel
theorem dX12_depute_51 : decode cX12_depute 51 = .ok (.iload_n 1, 1) := by decide +kernel
theorem dX12_depute_52 : decode cX12_depute 52 = .ok (.invokevirtual 203, 3) := by decide +kernel
theorem dX12_depute_55 : decode cX12_depute 55 = .ok (.ireturn, 1) := by decide +kernel
theorem dX12_sealed_0 : decode cX12_sealed 0 = .ok (.sipush 131, 3) := by decide +kernel
theorem dX12_sealed_3 : decode cX12_sealed 3 = .ok (.iload_n 0, 1) := by decide +kernel
theorem dX12_sealed_4 : decode cX12_sealed 4 = .ok (.imul, 1) := by decide +kernel
theorem dX12_sealed_5 : decode cX12_sealed 5 = .ok (.bipush 17, 2) := by decide +kernel
theorem dX12_sealed_7 : decode cX12_sealed 7 = .ok (.iload_n 1, 1) := by decide +kernel
theorem dX12_sealed_8 : decode cX12_sealed 8 = .ok (.imul, 1) := by decide +kernel
theorem dX12_sealed_9 : decode cX12_sealed 9 = .ok (.iadd, 1) := by decide +kernel
theorem dX12_sealed_10 : decode cX12_sealed 10 = .ok (.bipush 7, 2) := by decide +kernel
theorem dX12_sealed_12 : decode cX12_sealed 12 = .ok (.iadd, 1) := by decide +kernel
theorem dX12_sealed_13 : decode cX12_sealed 13 = .ok (.ldc 241, 2) := by decide +kernel
theorem dX12_sealed_15 : decode cX12_sealed 15 = .ok (.irem, 1) := by decide +kernel
theorem dX12_sealed_16 : decode cX12_sealed 16 = .ok (.ireturn, 1) := by decide +kernel
theorem dX12_markOf_0 : decode cX12_markOf 0 = .ok (.sipush 7919, 3) := by decide +kernel
theorem dX12_markOf_3 : decode cX12_markOf 3 = .ok (.iload_n 0, 1) := by decide +kernel
theorem dX12_markOf_4 : decode cX12_markOf 4 = .ok (.imul, 1) := by decide +kernel
theorem dX12_markOf_5 : decode cX12_markOf 5 = .ok (.sipush 613, 3) := by decide +kernel
theorem dX12_markOf_8 : decode cX12_markOf 8 = .ok (.iload_n 1, 1) := by decide +kernel
theorem dX12_markOf_9 : decode cX12_markOf 9 = .ok (.imul, 1) := by decide +kernel
theorem dX12_markOf_10 : decode cX12_markOf 10 = .ok (.iadd, 1) := by decide +kernel
theorem dX12_markOf_11 : decode cX12_markOf 11 = .ok (.bipush 97, 2) := by decide +kernel
theorem dX12_markOf_13 : decode cX12_markOf 13 = .ok (.iload_n 2, 1) := by decide +kernel
theorem dX12_markOf_14 : decode cX12_markOf 14 = .ok (.imul, 1) := by decide +kernel
theorem dX12_markOf_15 : decode cX12_markOf 15 = .ok (.iadd, 1) := by decide +kernel
theorem dX12_markOf_16 : decode cX12_markOf 16 = .ok (.iload_n 3, 1) := by decide +kernel
theorem dX12_markOf_17 : decode cX12_markOf 17 = .ok (.invokestatic 242, 3) := by decide +kernel
theorem dX12_markOf_20 : decode cX12_markOf 20 = .ok (.ireturn, 1) := by decide +kernel
theorem dX12_sealAhead_0 : decode cX12_sealAhead 0 = .ok (.iload_n 2, 1) := by decide +kernel
theorem dX12_sealAhead_1 : decode cX12_sealAhead 1 = .ok (.ifCond .ne 11, 3) := by decide +kernel
theorem dX12_sealAhead_4 : decode cX12_sealAhead 4 = .ok (.sipush 1000, 3) := by decide +kernel
theorem dX12_sealAhead_7 : decode cX12_sealAhead 7 = .ok (.iload_n 1, 1) := by decide +kernel
theorem dX12_sealAhead_8 : decode cX12_sealAhead 8 = .ok (.iadd, 1) := by decide +kernel
theorem dX12_sealAhead_9 : decode cX12_sealAhead 9 = .ok (.goto 22, 3) := by decide +kernel
theorem dX12_sealAhead_12 : decode cX12_sealAhead 12 = .ok (.aload_n 0, 1) := by decide +kernel
theorem dX12_sealAhead_13 : decode cX12_sealAhead 13 = .ok (.getfield 94, 3) := by decide +kernel
theorem dX12_sealAhead_16 : decode cX12_sealAhead 16 = .ok (.aload_n 0, 1) := by decide +kernel
theorem dX12_sealAhead_17 : decode cX12_sealAhead 17 = .ok (.getfield 82, 3) := by decide +kernel
theorem dX12_sealAhead_20 : decode cX12_sealAhead 20 = .ok (.sipush 160, 3) := by decide +kernel
theorem dX12_sealAhead_23 : decode cX12_sealAhead 23 = .ok (.iload_n 1, 1) := by decide +kernel
theorem dX12_sealAhead_24 : decode cX12_sealAhead 24 = .ok (.imul, 1) := by decide +kernel
theorem dX12_sealAhead_25 : decode cX12_sealAhead 25 = .ok (.iload_n 2, 1) := by decide +kernel
theorem dX12_sealAhead_26 : decode cX12_sealAhead 26 = .ok (.iadd, 1) := by decide +kernel
theorem dX12_sealAhead_27 : decode cX12_sealAhead 27 = .ok (.iconst 1, 1) := by decide +kernel
theorem dX12_sealAhead_28 : decode cX12_sealAhead 28 = .ok (.isub, 1) := by decide +kernel
theorem dX12_sealAhead_29 : decode cX12_sealAhead 29 = .ok (.iaload, 1) := by decide +kernel
theorem dX12_sealAhead_30 : decode cX12_sealAhead 30 = .ok (.iaload, 1) := by decide +kernel
theorem dX12_sealAhead_31 : decode cX12_sealAhead 31 = .ok (.ireturn, 1) := by decide +kernel
theorem dX12_sealNow_0 : decode cX12_sealNow 0 = .ok (.iconst 1, 1) := by decide +kernel
theorem dX12_sealNow_1 : decode cX12_sealNow 1 = .ok (.istore_n 3, 1) := by decide +kernel
theorem dX12_sealNow_2 : decode cX12_sealNow 2 = .ok (.iconst 0, 1) := by decide +kernel
theorem dX12_sealNow_3 : decode cX12_sealNow 3 = .ok (.istore 4, 2) := by decide +kernel
theorem dX12_sealNow_5 : decode cX12_sealNow 5 = .ok (.iload 4, 2) := by decide +kernel
theorem dX12_sealNow_7 : decode cX12_sealNow 7 = .ok (.bipush 6, 2) := by decide +kernel
theorem dX12_sealNow_9 : decode cX12_sealNow 9 = .ok (.if_icmp .ge 44, 3) := by decide +kernel
theorem dX12_sealNow_12 : decode cX12_sealNow 12 = .ok (.iload_n 3, 1) := by decide +kernel
theorem dX12_sealNow_13 : decode cX12_sealNow 13 = .ok (.iload_n 1, 1) := by decide +kernel
theorem dX12_sealNow_14 : decode cX12_sealNow 14 = .ok (.iload_n 2, 1) := by decide +kernel
theorem dX12_sealNow_15 : decode cX12_sealNow 15 = .ok (.iload 4, 2) := by decide +kernel
theorem dX12_sealNow_17 : decode cX12_sealNow 17 = .ok (.aload_n 0, 1) := by decide +kernel
theorem dX12_sealNow_18 : decode cX12_sealNow 18 = .ok (.getfield 88, 3) := by decide +kernel
theorem dX12_sealNow_21 : decode cX12_sealNow 21 = .ok (.bipush 6, 2) := by decide +kernel
theorem dX12_sealNow_23 : decode cX12_sealNow 23 = .ok (.aload_n 0, 1) := by decide +kernel
theorem dX12_sealNow_24 : decode cX12_sealNow 24 = .ok (.getfield 82, 3) := by decide +kernel
theorem dX12_sealNow_27 : decode cX12_sealNow 27 = .ok (.sipush 160, 3) := by decide +kernel
theorem dX12_sealNow_30 : decode cX12_sealNow 30 = .ok (.iload_n 1, 1) := by decide +kernel
theorem dX12_sealNow_31 : decode cX12_sealNow 31 = .ok (.imul, 1) := by decide +kernel
theorem dX12_sealNow_32 : decode cX12_sealNow 32 = .ok (.iload_n 2, 1) := by decide +kernel
theorem dX12_sealNow_33 : decode cX12_sealNow 33 = .ok (.iadd, 1) := by decide +kernel
theorem dX12_sealNow_34 : decode cX12_sealNow 34 = .ok (.iaload, 1) := by decide +kernel
theorem dX12_sealNow_35 : decode cX12_sealNow 35 = .ok (.imul, 1) := by decide +kernel
theorem dX12_sealNow_36 : decode cX12_sealNow 36 = .ok (.iload 4, 2) := by decide +kernel
theorem dX12_sealNow_38 : decode cX12_sealNow 38 = .ok (.iadd, 1) := by decide +kernel
theorem dX12_sealNow_39 : decode cX12_sealNow 39 = .ok (.iaload, 1) := by decide +kernel
theorem dX12_sealNow_40 : decode cX12_sealNow 40 = .ok (.invokestatic 245, 3) := by decide +kernel
theorem dX12_sealNow_43 : decode cX12_sealNow 43 = .ok (.invokestatic 242, 3) := by decide +kernel
theorem dX12_sealNow_46 : decode cX12_sealNow 46 = .ok (.istore_n 3, 1) := by decide +kernel
theorem dX12_sealNow_47 : decode cX12_sealNow 47 = .ok (.iinc 4 1, 3) := by decide +kernel
theorem dX12_sealNow_50 : decode cX12_sealNow 50 = .ok (.goto (-45), 3) := by decide +kernel
theorem dX12_sealNow_53 : decode cX12_sealNow 53 = .ok (.aload_n 0, 1) := by decide +kernel
theorem dX12_sealNow_54 : decode cX12_sealNow 54 = .ok (.iload_n 1, 1) := by decide +kernel
theorem dX12_sealNow_55 : decode cX12_sealNow 55 = .ok (.iload_n 2, 1) := by decide +kernel
theorem dX12_sealNow_56 : decode cX12_sealNow 56 = .ok (.invokevirtual 248, 3) := by decide +kernel
theorem dX12_sealNow_59 : decode cX12_sealNow 59 = .ok (.iload_n 3, 1) := by decide +kernel
theorem dX12_sealNow_60 : decode cX12_sealNow 60 = .ok (.invokestatic 242, 3) := by decide +kernel
theorem dX12_sealNow_63 : decode cX12_sealNow 63 = .ok (.ireturn, 1) := by decide +kernel
theorem dX12_prepare_0 : decode cX12_prepare 0 = .ok (.aload_n 0, 1) := by decide +kernel
theorem dX12_prepare_1 : decode cX12_prepare 1 = .ok (.iload_n 1, 1) := by decide +kernel
theorem dX12_prepare_2 : decode cX12_prepare 2 = .ok (.iconst 0, 1) := by decide +kernel
theorem dX12_prepare_3 : decode cX12_prepare 3 = .ok (.iconst 1, 1) := by decide +kernel
theorem dX12_prepare_4 : decode cX12_prepare 4 = .ok (.invokestatic 124, 3) := by decide +kernel
theorem dX12_prepare_7 : decode cX12_prepare 7 = .ok (.ifCond .eq 16, 3) := by decide +kernel
theorem dX12_prepare_10 : decode cX12_prepare 10 = .ok (.iload_n 2, 1) := by decide +kernel
theorem dX12_prepare_11 : decode cX12_prepare 11 = .ok (.iconst 0, 1) := by decide +kernel
theorem dX12_prepare_12 : decode cX12_prepare 12 = .ok (.iconst 5, 1) := by decide +kernel
theorem dX12_prepare_13 : decode cX12_prepare 13 = .ok (.invokestatic 124, 3) := by decide +kernel
theorem dX12_prepare_16 : decode cX12_prepare 16 = .ok (.ifCond .eq 7, 3) := by decide +kernel
theorem dX12_prepare_19 : decode cX12_prepare 19 = .ok (.iconst 0, 1) := by decide +kernel
theorem dX12_prepare_20 : decode cX12_prepare 20 = .ok (.goto 4, 3) := by decide +kernel
theorem dX12_prepare_23 : decode cX12_prepare 23 = .ok (.iconst 1, 1) := by decide +kernel
theorem dX12_prepare_24 : decode cX12_prepare 24 = .ok (.invokevirtual 143, 3) := by decide +kernel
theorem dX12_prepare_27 : decode cX12_prepare 27 = .ok (.ifCond .eq 13, 3) := by decide +kernel
theorem dX12_prepare_30 : decode cX12_prepare 30 = .ok (.aload_n 0, 1) := by decide +kernel
theorem dX12_prepare_31 : decode cX12_prepare 31 = .ok (.iload_n 1, 1) := by decide +kernel
theorem dX12_prepare_32 : decode cX12_prepare 32 = .ok (.putfield 193, 3) := by decide +kernel
theorem dX12_prepare_35 : decode cX12_prepare 35 = .ok (.aload_n 0, 1) := by decide +kernel
theorem dX12_prepare_36 : decode cX12_prepare 36 = .ok (.iload_n 2, 1) := by decide +kernel
theorem dX12_prepare_37 : decode cX12_prepare 37 = .ok (.putfield 190, 3) := by decide +kernel
theorem dX12_prepare_40 : decode cX12_prepare 40 = .ok (.return_, 1) := by decide +kernel
theorem dX12_areThere_0 : decode cX12_areThere 0 = .ok (.iload_n 1, 1) := by decide +kernel
theorem dX12_areThere_1 : decode cX12_areThere 1 = .ok (.invokestatic 131, 3) := by decide +kernel
theorem dX12_areThere_4 : decode cX12_areThere 4 = .ok (.ifCond .eq 22, 3) := by decide +kernel
theorem dX12_areThere_7 : decode cX12_areThere 7 = .ok (.iload_n 2, 1) := by decide +kernel
theorem dX12_areThere_8 : decode cX12_areThere 8 = .ok (.invokestatic 206, 3) := by decide +kernel
theorem dX12_areThere_11 : decode cX12_areThere 11 = .ok (.ifCond .eq 15, 3) := by decide +kernel
theorem dX12_areThere_14 : decode cX12_areThere 14 = .ok (.aload_n 0, 1) := by decide +kernel
theorem dX12_areThere_15 : decode cX12_areThere 15 = .ok (.iload_n 3, 1) := by decide +kernel
theorem dX12_areThere_16 : decode cX12_areThere 16 = .ok (.invokevirtual 217, 3) := by decide +kernel
theorem dX12_areThere_19 : decode cX12_areThere 19 = .ok (.ifCond .eq 7, 3) := by decide +kernel
theorem dX12_areThere_22 : decode cX12_areThere 22 = .ok (.iconst 1, 1) := by decide +kernel
theorem dX12_areThere_23 : decode cX12_areThere 23 = .ok (.goto 4, 3) := by decide +kernel
theorem dX12_areThere_26 : decode cX12_areThere 26 = .ok (.iconst 0, 1) := by decide +kernel
theorem dX12_areThere_27 : decode cX12_areThere 27 = .ok (.ireturn, 1) := by decide +kernel
theorem dX12_errorOfAct_0 : decode cX12_errorOfAct 0 = .ok (.aload_n 0, 1) := by decide +kernel
theorem dX12_errorOfAct_1 : decode cX12_errorOfAct 1 = .ok (.iload_n 1, 1) := by decide +kernel
theorem dX12_errorOfAct_2 : decode cX12_errorOfAct 2 = .ok (.iload_n 2, 1) := by decide +kernel
theorem dX12_errorOfAct_3 : decode cX12_errorOfAct 3 = .ok (.iload_n 3, 1) := by decide +kernel
theorem dX12_errorOfAct_4 : decode cX12_errorOfAct 4 = .ok (.invokevirtual 251, 3) := by decide +kernel
theorem dX12_errorOfAct_7 : decode cX12_errorOfAct 7 = .ok (.ifCond .ne 5, 3) := by decide +kernel
theorem dX12_errorOfAct_10 : decode cX12_errorOfAct 10 = .ok (.iconst 1, 1) := by decide +kernel
theorem dX12_errorOfAct_11 : decode cX12_errorOfAct 11 = .ok (.ireturn, 1) := by decide +kernel
theorem dX12_errorOfAct_12 : decode cX12_errorOfAct 12 = .ok (.iload 4, 2) := by decide +kernel
theorem dX12_errorOfAct_14 : decode cX12_errorOfAct 14 = .ok (.iconst 1, 1) := by decide +kernel
theorem dX12_errorOfAct_15 : decode cX12_errorOfAct 15 = .ok (.sipush 10000, 3) := by decide +kernel
theorem dX12_errorOfAct_18 : decode cX12_errorOfAct 18 = .ok (.invokestatic 124, 3) := by decide +kernel
theorem dX12_errorOfAct_21 : decode cX12_errorOfAct 21 = .ok (.ifCond .ne 7, 3) := by decide +kernel
theorem dX12_errorOfAct_24 : decode cX12_errorOfAct 24 = .ok (.iconst 2, 1) := by decide +kernel
theorem dX12_errorOfAct_25 : decode cX12_errorOfAct 25 = .ok (.goto 30, 3) := by decide +kernel
theorem dX12_errorOfAct_28 : decode cX12_errorOfAct 28 = .ok (.aload_n 0, 1) := by decide +kernel
theorem dX12_errorOfAct_29 : decode cX12_errorOfAct 29 = .ok (.getfield 153, 3) := by decide +kernel
theorem dX12_errorOfAct_32 : decode cX12_errorOfAct 32 = .ok (.sipush 160, 3) := by decide +kernel
theorem dX12_errorOfAct_35 : decode cX12_errorOfAct 35 = .ok (.if_icmp .eq 15, 3) := by decide +kernel
theorem dX12_errorOfAct_38 : decode cX12_errorOfAct 38 = .ok (.aload_n 0, 1) := by decide +kernel
theorem dX12_errorOfAct_39 : decode cX12_errorOfAct 39 = .ok (.iload_n 1, 1) := by decide +kernel
theorem dX12_errorOfAct_40 : decode cX12_errorOfAct 40 = .ok (.iload_n 2, 1) := by decide +kernel
theorem dX12_errorOfAct_41 : decode cX12_errorOfAct 41 = .ok (.iload_n 3, 1) := by decide +kernel
theorem dX12_errorOfAct_42 : decode cX12_errorOfAct 42 = .ok (.iload 4, 2) := by decide +kernel
theorem dX12_errorOfAct_44 : decode cX12_errorOfAct 44 = .ok (.invokevirtual 254, 3) := by decide +kernel
theorem dX12_errorOfAct_47 : decode cX12_errorOfAct 47 = .ok (.ifCond .le 7, 3) := by decide +kernel
theorem dX12_errorOfAct_50 : decode cX12_errorOfAct 50 = .ok (.iconst 3, 1) := by decide +kernel
theorem dX12_errorOfAct_51 : decode cX12_errorOfAct 51 = .ok (.goto 4, 3) := by decide +kernel
theorem dX12_errorOfAct_54 : decode cX12_errorOfAct 54 = .ok (.iconst 0, 1) := by decide +kernel
theorem dX12_errorOfAct_55 : decode cX12_errorOfAct 55 = .ok (.ireturn, 1) := by decide +kernel
theorem dX12_faultOf_0 : decode cX12_faultOf 0 = .ok (.aload_n 0, 1) := by decide +kernel
theorem dX12_faultOf_1 : decode cX12_faultOf 1 = .ok (.getfield 85, 3) := by decide +kernel
theorem dX12_faultOf_4 : decode cX12_faultOf 4 = .ok (.iload_n 1, 1) := by decide +kernel
theorem dX12_faultOf_5 : decode cX12_faultOf 5 = .ok (.iaload, 1) := by decide +kernel
theorem dX12_faultOf_6 : decode cX12_faultOf 6 = .ok (.istore_n 2, 1) := by decide +kernel
theorem dX12_faultOf_7 : decode cX12_faultOf 7 = .ok (.bipush 6, 2) := by decide +kernel
theorem dX12_faultOf_9 : decode cX12_faultOf 9 = .ok (.iload_n 1, 1) := by decide +kernel
theorem dX12_faultOf_10 : decode cX12_faultOf 10 = .ok (.imul, 1) := by decide +kernel
theorem dX12_faultOf_11 : decode cX12_faultOf 11 = .ok (.istore_n 3, 1) := by decide +kernel
theorem dX12_faultOf_12 : decode cX12_faultOf 12 = .ok (.aload_n 0, 1) := by decide +kernel
theorem dX12_faultOf_13 : decode cX12_faultOf 13 = .ok (.bipush 6, 2) := by decide +kernel
theorem dX12_faultOf_15 : decode cX12_faultOf 15 = .ok (.iload_n 2, 1) := by decide +kernel
theorem dX12_faultOf_16 : decode cX12_faultOf 16 = .ok (.iadd, 1) := by decide +kernel
theorem dX12_faultOf_17 : decode cX12_faultOf 17 = .ok (.aload_n 0, 1) := by decide +kernel
theorem dX12_faultOf_18 : decode cX12_faultOf 18 = .ok (.getfield 16, 3) := by decide +kernel
theorem dX12_faultOf_21 : decode cX12_faultOf 21 = .ok (.iload_n 2, 1) := by decide +kernel
theorem dX12_faultOf_22 : decode cX12_faultOf 22 = .ok (.iaload, 1) := by decide +kernel
theorem dX12_faultOf_23 : decode cX12_faultOf 23 = .ok (.aload_n 0, 1) := by decide +kernel
theorem dX12_faultOf_24 : decode cX12_faultOf 24 = .ok (.getfield 19, 3) := by decide +kernel
theorem dX12_faultOf_27 : decode cX12_faultOf 27 = .ok (.iload_n 2, 1) := by decide +kernel
theorem dX12_faultOf_28 : decode cX12_faultOf 28 = .ok (.iaload, 1) := by decide +kernel
theorem dX12_faultOf_29 : decode cX12_faultOf 29 = .ok (.aload_n 0, 1) := by decide +kernel
theorem dX12_faultOf_30 : decode cX12_faultOf 30 = .ok (.getfield 88, 3) := by decide +kernel
theorem dX12_faultOf_33 : decode cX12_faultOf 33 = .ok (.iload_n 3, 1) := by decide +kernel
theorem dX12_faultOf_34 : decode cX12_faultOf 34 = .ok (.iaload, 1) := by decide +kernel
theorem dX12_faultOf_35 : decode cX12_faultOf 35 = .ok (.aload_n 0, 1) := by decide +kernel
theorem dX12_faultOf_36 : decode cX12_faultOf 36 = .ok (.getfield 88, 3) := by decide +kernel
theorem dX12_faultOf_39 : decode cX12_faultOf 39 = .ok (.iload_n 3, 1) := by decide +kernel
theorem dX12_faultOf_40 : decode cX12_faultOf 40 = .ok (.iconst 1, 1) := by decide +kernel
theorem dX12_faultOf_41 : decode cX12_faultOf 41 = .ok (.iadd, 1) := by decide +kernel
theorem dX12_faultOf_42 : decode cX12_faultOf 42 = .ok (.iaload, 1) := by decide +kernel
theorem dX12_faultOf_43 : decode cX12_faultOf 43 = .ok (.aload_n 0, 1) := by decide +kernel
theorem dX12_faultOf_44 : decode cX12_faultOf 44 = .ok (.getfield 88, 3) := by decide +kernel
theorem dX12_faultOf_47 : decode cX12_faultOf 47 = .ok (.iload_n 3, 1) := by decide +kernel
theorem dX12_faultOf_48 : decode cX12_faultOf 48 = .ok (.iconst 2, 1) := by decide +kernel
theorem dX12_faultOf_49 : decode cX12_faultOf 49 = .ok (.iadd, 1) := by decide +kernel
theorem dX12_faultOf_50 : decode cX12_faultOf 50 = .ok (.iaload, 1) := by decide +kernel
theorem dX12_faultOf_51 : decode cX12_faultOf 51 = .ok (.aload_n 0, 1) := by decide +kernel
theorem dX12_faultOf_52 : decode cX12_faultOf 52 = .ok (.getfield 91, 3) := by decide +kernel
theorem dX12_faultOf_55 : decode cX12_faultOf 55 = .ok (.iload_n 1, 1) := by decide +kernel
theorem dX12_faultOf_56 : decode cX12_faultOf 56 = .ok (.iaload, 1) := by decide +kernel
theorem dX12_faultOf_57 : decode cX12_faultOf 57 = .ok (.aload_n 0, 1) := by decide +kernel
theorem dX12_faultOf_58 : decode cX12_faultOf 58 = .ok (.getfield 88, 3) := by decide +kernel
theorem dX12_faultOf_61 : decode cX12_faultOf 61 = .ok (.iload_n 3, 1) := by decide +kernel
theorem dX12_faultOf_62 : decode cX12_faultOf 62 = .ok (.iconst 4, 1) := by decide +kernel
theorem dX12_faultOf_63 : decode cX12_faultOf 63 = .ok (.iadd, 1) := by decide +kernel
theorem dX12_faultOf_64 : decode cX12_faultOf 64 = .ok (.iaload, 1) := by decide +kernel
theorem dX12_faultOf_65 : decode cX12_faultOf 65 = .ok (.invokevirtual 196, 3) := by decide +kernel
theorem dX12_faultOf_68 : decode cX12_faultOf 68 = .ok (.ireturn, 1) := by decide +kernel
theorem dX12_act_0 : decode cX12_act 0 = .ok (.aload_n 0, 1) := by decide +kernel
theorem dX12_act_1 : decode cX12_act 1 = .ok (.aload_n 0, 1) := by decide +kernel
theorem dX12_act_2 : decode cX12_act 2 = .ok (.iload_n 1, 1) := by decide +kernel
theorem dX12_act_3 : decode cX12_act 3 = .ok (.iload_n 2, 1) := by decide +kernel
theorem dX12_act_4 : decode cX12_act 4 = .ok (.iload_n 3, 1) := by decide +kernel
theorem dX12_act_5 : decode cX12_act 5 = .ok (.iload 4, 2) := by decide +kernel
theorem dX12_act_7 : decode cX12_act 7 = .ok (.invokevirtual 257, 3) := by decide +kernel
theorem dX12_act_10 : decode cX12_act 10 = .ok (.invokevirtual 143, 3) := by decide +kernel
theorem dX12_act_13 : decode cX12_act 13 = .ok (.ifCond .ne 5, 3) := by decide +kernel
theorem dX12_act_16 : decode cX12_act 16 = .ok (.iconst 0, 1) := by decide +kernel
theorem dX12_act_17 : decode cX12_act 17 = .ok (.ireturn, 1) := by decide +kernel
theorem dX12_act_18 : decode cX12_act 18 = .ok (.bipush 6, 2) := by decide +kernel
theorem dX12_act_20 : decode cX12_act 20 = .ok (.aload_n 0, 1) := by decide +kernel
theorem dX12_act_21 : decode cX12_act 21 = .ok (.getfield 260, 3) := by decide +kernel
theorem dX12_act_24 : decode cX12_act 24 = .ok (.imul, 1) := by decide +kernel
theorem dX12_act_25 : decode cX12_act 25 = .ok (.istore 5, 2) := by decide +kernel
theorem dX12_act_27 : decode cX12_act 27 = .ok (.aload_n 0, 1) := by decide +kernel
theorem dX12_act_28 : decode cX12_act 28 = .ok (.getfield 88, 3) := by decide +kernel
theorem dX12_act_31 : decode cX12_act 31 = .ok (.iload 5, 2) := by decide +kernel
theorem dX12_act_33 : decode cX12_act 33 = .ok (.iload_n 2, 1) := by decide +kernel
theorem dX12_act_34 : decode cX12_act 34 = .ok (.iastore, 1) := by decide +kernel
theorem dX12_act_35 : decode cX12_act 35 = .ok (.aload_n 0, 1) := by decide +kernel
theorem dX12_act_36 : decode cX12_act 36 = .ok (.getfield 88, 3) := by decide +kernel
theorem dX12_act_39 : decode cX12_act 39 = .ok (.iload 5, 2) := by decide +kernel
theorem dX12_act_41 : decode cX12_act 41 = .ok (.iconst 1, 1) := by decide +kernel
theorem dX12_act_42 : decode cX12_act 42 = .ok (.iadd, 1) := by decide +kernel
theorem dX12_act_43 : decode cX12_act 43 = .ok (.iload_n 3, 1) := by decide +kernel
theorem dX12_act_44 : decode cX12_act 44 = .ok (.iastore, 1) := by decide +kernel
theorem dX12_act_45 : decode cX12_act 45 = .ok (.aload_n 0, 1) := by decide +kernel
theorem dX12_act_46 : decode cX12_act 46 = .ok (.getfield 88, 3) := by decide +kernel
theorem dX12_act_49 : decode cX12_act 49 = .ok (.iload 5, 2) := by decide +kernel
theorem dX12_act_51 : decode cX12_act 51 = .ok (.iconst 2, 1) := by decide +kernel
theorem dX12_act_52 : decode cX12_act 52 = .ok (.iadd, 1) := by decide +kernel
theorem dX12_act_53 : decode cX12_act 53 = .ok (.aload_n 0, 1) := by decide +kernel
theorem dX12_act_54 : decode cX12_act 54 = .ok (.getfield 190, 3) := by decide +kernel
theorem dX12_act_57 : decode cX12_act 57 = .ok (.iastore, 1) := by decide +kernel
theorem dX12_act_58 : decode cX12_act 58 = .ok (.aload_n 0, 1) := by decide +kernel
theorem dX12_act_59 : decode cX12_act 59 = .ok (.getfield 88, 3) := by decide +kernel
theorem dX12_act_62 : decode cX12_act 62 = .ok (.iload 5, 2) := by decide +kernel
theorem dX12_act_64 : decode cX12_act 64 = .ok (.iconst 3, 1) := by decide +kernel
theorem dX12_act_65 : decode cX12_act 65 = .ok (.iadd, 1) := by decide +kernel
theorem dX12_act_66 : decode cX12_act 66 = .ok (.iload 4, 2) := by decide +kernel
theorem dX12_act_68 : decode cX12_act 68 = .ok (.iastore, 1) := by decide +kernel
theorem dX12_act_69 : decode cX12_act 69 = .ok (.aload_n 0, 1) := by decide +kernel
theorem dX12_act_70 : decode cX12_act 70 = .ok (.getfield 88, 3) := by decide +kernel
theorem dX12_act_73 : decode cX12_act 73 = .ok (.iload 5, 2) := by decide +kernel
theorem dX12_act_75 : decode cX12_act 75 = .ok (.iconst 4, 1) := by decide +kernel
theorem dX12_act_76 : decode cX12_act 76 = .ok (.iadd, 1) := by decide +kernel
theorem dX12_act_77 : decode cX12_act 77 = .ok (.aload_n 0, 1) := by decide +kernel
theorem dX12_act_78 : decode cX12_act 78 = .ok (.getfield 193, 3) := by decide +kernel
theorem dX12_act_81 : decode cX12_act 81 = .ok (.iastore, 1) := by decide +kernel
theorem dX12_act_82 : decode cX12_act 82 = .ok (.aload_n 0, 1) := by decide +kernel
theorem dX12_act_83 : decode cX12_act 83 = .ok (.getfield 88, 3) := by decide +kernel
theorem dX12_act_86 : decode cX12_act 86 = .ok (.iload 5, 2) := by decide +kernel
theorem dX12_act_88 : decode cX12_act 88 = .ok (.iconst 5, 1) := by decide +kernel
theorem dX12_act_89 : decode cX12_act 89 = .ok (.iadd, 1) := by decide +kernel
theorem dX12_act_90 : decode cX12_act 90 = .ok (.aload_n 0, 1) := by decide +kernel
theorem dX12_act_91 : decode cX12_act 91 = .ok (.getfield 150, 3) := by decide +kernel
theorem dX12_act_94 : decode cX12_act 94 = .ok (.iastore, 1) := by decide +kernel
theorem dX12_act_95 : decode cX12_act 95 = .ok (.aload_n 0, 1) := by decide +kernel
theorem dX12_act_96 : decode cX12_act 96 = .ok (.getfield 91, 3) := by decide +kernel
theorem dX12_act_99 : decode cX12_act 99 = .ok (.aload_n 0, 1) := by decide +kernel
theorem dX12_act_100 : decode cX12_act 100 = .ok (.getfield 260, 3) := by decide +kernel
theorem dX12_act_103 : decode cX12_act 103 = .ok (.iload 4, 2) := by decide +kernel
theorem dX12_act_105 : decode cX12_act 105 = .ok (.iastore, 1) := by decide +kernel
theorem dX12_act_106 : decode cX12_act 106 = .ok (.aload_n 0, 1) := by decide +kernel
theorem dX12_act_107 : decode cX12_act 107 = .ok (.getfield 85, 3) := by decide +kernel
theorem dX12_act_110 : decode cX12_act 110 = .ok (.aload_n 0, 1) := by decide +kernel
theorem dX12_act_111 : decode cX12_act 111 = .ok (.getfield 260, 3) := by decide +kernel
theorem dX12_act_114 : decode cX12_act 114 = .ok (.aload_n 0, 1) := by decide +kernel
theorem dX12_act_115 : decode cX12_act 115 = .ok (.iload_n 1, 1) := by decide +kernel
theorem dX12_act_116 : decode cX12_act 116 = .ok (.iconst 3, 1) := by decide +kernel
theorem dX12_act_117 : decode cX12_act 117 = .ok (.aload_n 0, 1) := by decide +kernel
theorem dX12_act_118 : decode cX12_act 118 = .ok (.getfield 260, 3) := by decide +kernel
theorem dX12_act_121 : decode cX12_act 121 = .ok (.invokevirtual 203, 3) := by decide +kernel
theorem dX12_act_124 : decode cX12_act 124 = .ok (.iastore, 1) := by decide +kernel
theorem dX12_act_125 : decode cX12_act 125 = .ok (.aload_n 0, 1) := by decide +kernel
theorem dX12_act_126 : decode cX12_act 126 = .ok (.getfield 82, 3) := by decide +kernel
theorem dX12_act_129 : decode cX12_act 129 = .ok (.sipush 160, 3) := by decide +kernel
theorem dX12_act_132 : decode cX12_act 132 = .ok (.iload_n 1, 1) := by decide +kernel
theorem dX12_act_133 : decode cX12_act 133 = .ok (.imul, 1) := by decide +kernel
theorem dX12_act_134 : decode cX12_act 134 = .ok (.aload_n 0, 1) := by decide +kernel
theorem dX12_act_135 : decode cX12_act 135 = .ok (.getfield 79, 3) := by decide +kernel
theorem dX12_act_138 : decode cX12_act 138 = .ok (.iload_n 1, 1) := by decide +kernel
theorem dX12_act_139 : decode cX12_act 139 = .ok (.iaload, 1) := by decide +kernel
theorem dX12_act_140 : decode cX12_act 140 = .ok (.iadd, 1) := by decide +kernel
theorem dX12_act_141 : decode cX12_act 141 = .ok (.aload_n 0, 1) := by decide +kernel
theorem dX12_act_142 : decode cX12_act 142 = .ok (.getfield 260, 3) := by decide +kernel
theorem dX12_act_145 : decode cX12_act 145 = .ok (.iastore, 1) := by decide +kernel
theorem dX12_act_146 : decode cX12_act 146 = .ok (.aload_n 0, 1) := by decide +kernel
theorem dX12_act_147 : decode cX12_act 147 = .ok (.getfield 94, 3) := by decide +kernel
theorem dX12_act_150 : decode cX12_act 150 = .ok (.aload_n 0, 1) := by decide +kernel
theorem dX12_act_151 : decode cX12_act 151 = .ok (.getfield 260, 3) := by decide +kernel
theorem dX12_act_154 : decode cX12_act 154 = .ok (.aload_n 0, 1) := by decide +kernel
theorem dX12_act_155 : decode cX12_act 155 = .ok (.iload_n 1, 1) := by decide +kernel
theorem dX12_act_156 : decode cX12_act 156 = .ok (.aload_n 0, 1) := by decide +kernel
theorem dX12_act_157 : decode cX12_act 157 = .ok (.getfield 79, 3) := by decide +kernel
theorem dX12_act_160 : decode cX12_act 160 = .ok (.iload_n 1, 1) := by decide +kernel
theorem dX12_act_161 : decode cX12_act 161 = .ok (.iaload, 1) := by decide +kernel
theorem dX12_act_162 : decode cX12_act 162 = .ok (.invokevirtual 263, 3) := by decide +kernel
theorem dX12_act_165 : decode cX12_act 165 = .ok (.iastore, 1) := by decide +kernel
theorem dX12_act_166 : decode cX12_act 166 = .ok (.aload_n 0, 1) := by decide +kernel
theorem dX12_act_167 : decode cX12_act 167 = .ok (.getfield 97, 3) := by decide +kernel
theorem dX12_act_170 : decode cX12_act 170 = .ok (.aload_n 0, 1) := by decide +kernel
theorem dX12_act_171 : decode cX12_act 171 = .ok (.getfield 260, 3) := by decide +kernel
theorem dX12_act_174 : decode cX12_act 174 = .ok (.aload_n 0, 1) := by decide +kernel
theorem dX12_act_175 : decode cX12_act 175 = .ok (.aload_n 0, 1) := by decide +kernel
theorem dX12_act_176 : decode cX12_act 176 = .ok (.getfield 260, 3) := by decide +kernel
theorem dX12_act_179 : decode cX12_act 179 = .ok (.invokevirtual 266, 3) := by decide +kernel
theorem dX12_act_182 : decode cX12_act 182 = .ok (.ifCond .ne 7, 3) := by decide +kernel
theorem dX12_act_185 : decode cX12_act 185 = .ok (.iconst 1, 1) := by decide +kernel
theorem dX12_act_186 : decode cX12_act 186 = .ok (.goto 4, 3) := by decide +kernel
theorem dX12_act_189 : decode cX12_act 189 = .ok (.iconst 0, 1) := by decide +kernel
theorem dX12_act_190 : decode cX12_act 190 = .ok (.bastore, 1) := by decide +kernel
theorem dX12_act_191 : decode cX12_act 191 = .ok (.aload_n 0, 1) := by decide +kernel
theorem dX12_act_192 : decode cX12_act 192 = .ok (.dup, 1) := by decide +kernel
theorem dX12_act_193 : decode cX12_act 193 = .ok (.getfield 260, 3) := by decide +kernel
theorem dX12_act_196 : decode cX12_act 196 = .ok (.iconst 1, 1) := by decide +kernel
theorem dX12_act_197 : decode cX12_act 197 = .ok (.iadd, 1) := by decide +kernel
theorem dX12_act_198 : decode cX12_act 198 = .ok (.putfield 260, 3) := by decide +kernel
theorem dX12_act_201 : decode cX12_act 201 = .ok (.aload_n 0, 1) := by decide +kernel
theorem dX12_act_202 : decode cX12_act 202 = .ok (.getfield 79, 3) := by decide +kernel
theorem dX12_act_205 : decode cX12_act 205 = .ok (.iload_n 1, 1) := by decide +kernel
theorem dX12_act_206 : decode cX12_act 206 = .ok (.dup2, 1) := by decide +kernel
theorem dX12_act_207 : decode cX12_act 207 = .ok (.iaload, 1) := by decide +kernel
theorem dX12_act_208 : decode cX12_act 208 = .ok (.iconst 1, 1) := by decide +kernel
theorem dX12_act_209 : decode cX12_act 209 = .ok (.iadd, 1) := by decide +kernel
theorem dX12_act_210 : decode cX12_act 210 = .ok (.iastore, 1) := by decide +kernel
theorem dX12_act_211 : decode cX12_act 211 = .ok (.aload_n 0, 1) := by decide +kernel
theorem dX12_act_212 : decode cX12_act 212 = .ok (.getfield 79, 3) := by decide +kernel
theorem dX12_act_215 : decode cX12_act 215 = .ok (.iload_n 1, 1) := by decide +kernel
theorem dX12_act_216 : decode cX12_act 216 = .ok (.iaload, 1) := by decide +kernel
theorem dX12_act_217 : decode cX12_act 217 = .ok (.iconst 1, 1) := by decide +kernel
theorem dX12_act_218 : decode cX12_act 218 = .ok (.isub, 1) := by decide +kernel
theorem dX12_act_219 : decode cX12_act 219 = .ok (.ireturn, 1) := by decide +kernel
theorem dX12_tamper_0 : decode cX12_tamper 0 = .ok (.aload_n 0, 1) := by decide +kernel
theorem dX12_tamper_1 : decode cX12_tamper 1 = .ok (.aload_n 0, 1) := by decide +kernel
theorem dX12_tamper_2 : decode cX12_tamper 2 = .ok (.iload_n 1, 1) := by decide +kernel
theorem dX12_tamper_3 : decode cX12_tamper 3 = .ok (.iload_n 2, 1) := by decide +kernel
theorem dX12_tamper_4 : decode cX12_tamper 4 = .ok (.invokevirtual 269, 3) := by decide +kernel
theorem dX12_tamper_7 : decode cX12_tamper 7 = .ok (.ifCond .ne 7, 3) := by decide +kernel
theorem dX12_tamper_10 : decode cX12_tamper 10 = .ok (.iconst 1, 1) := by decide +kernel
theorem dX12_tamper_11 : decode cX12_tamper 11 = .ok (.goto 19, 3) := by decide +kernel
theorem dX12_tamper_14 : decode cX12_tamper 14 = .ok (.iload_n 3, 1) := by decide +kernel
theorem dX12_tamper_15 : decode cX12_tamper 15 = .ok (.iconst 1, 1) := by decide +kernel
theorem dX12_tamper_16 : decode cX12_tamper 16 = .ok (.sipush 10000, 3) := by decide +kernel
theorem dX12_tamper_19 : decode cX12_tamper 19 = .ok (.invokestatic 124, 3) := by decide +kernel
theorem dX12_tamper_22 : decode cX12_tamper 22 = .ok (.ifCond .eq 7, 3) := by decide +kernel
theorem dX12_tamper_25 : decode cX12_tamper 25 = .ok (.iconst 0, 1) := by decide +kernel
theorem dX12_tamper_26 : decode cX12_tamper 26 = .ok (.goto 4, 3) := by decide +kernel
theorem dX12_tamper_29 : decode cX12_tamper 29 = .ok (.iconst 2, 1) := by decide +kernel
theorem dX12_tamper_30 : decode cX12_tamper 30 = .ok (.invokevirtual 143, 3) := by decide +kernel
theorem dX12_tamper_33 : decode cX12_tamper 33 = .ok (.ifCond .ne 5, 3) := by decide +kernel
theorem dX12_tamper_36 : decode cX12_tamper 36 = .ok (.iconst 0, 1) := by decide +kernel
theorem dX12_tamper_37 : decode cX12_tamper 37 = .ok (.ireturn, 1) := by decide +kernel
theorem dX12_tamper_38 : decode cX12_tamper 38 = .ok (.bipush 6, 2) := by decide +kernel
theorem dX12_tamper_40 : decode cX12_tamper 40 = .ok (.aload_n 0, 1) := by decide +kernel
theorem dX12_tamper_41 : decode cX12_tamper 41 = .ok (.getfield 82, 3) := by decide +kernel
theorem dX12_tamper_44 : decode cX12_tamper 44 = .ok (.sipush 160, 3) := by decide +kernel
theorem dX12_tamper_47 : decode cX12_tamper 47 = .ok (.iload_n 1, 1) := by decide +kernel
theorem dX12_tamper_48 : decode cX12_tamper 48 = .ok (.imul, 1) := by decide +kernel
theorem dX12_tamper_49 : decode cX12_tamper 49 = .ok (.iload_n 2, 1) := by decide +kernel
theorem dX12_tamper_50 : decode cX12_tamper 50 = .ok (.iadd, 1) := by decide +kernel
theorem dX12_tamper_51 : decode cX12_tamper 51 = .ok (.iaload, 1) := by decide +kernel
theorem dX12_tamper_52 : decode cX12_tamper 52 = .ok (.imul, 1) := by decide +kernel
theorem dX12_tamper_53 : decode cX12_tamper 53 = .ok (.iconst 3, 1) := by decide +kernel
theorem dX12_tamper_54 : decode cX12_tamper 54 = .ok (.iadd, 1) := by decide +kernel
theorem dX12_tamper_55 : decode cX12_tamper 55 = .ok (.istore 4, 2) := by decide +kernel
theorem dX12_tamper_57 : decode cX12_tamper 57 = .ok (.aload_n 0, 1) := by decide +kernel
theorem dX12_tamper_58 : decode cX12_tamper 58 = .ok (.getfield 88, 3) := by decide +kernel
theorem dX12_tamper_61 : decode cX12_tamper 61 = .ok (.iload 4, 2) := by decide +kernel
theorem dX12_tamper_63 : decode cX12_tamper 63 = .ok (.iaload, 1) := by decide +kernel
theorem dX12_tamper_64 : decode cX12_tamper 64 = .ok (.istore 5, 2) := by decide +kernel
theorem dX12_tamper_66 : decode cX12_tamper 66 = .ok (.aload_n 0, 1) := by decide +kernel
theorem dX12_tamper_67 : decode cX12_tamper 67 = .ok (.getfield 88, 3) := by decide +kernel
theorem dX12_tamper_70 : decode cX12_tamper 70 = .ok (.iload 4, 2) := by decide +kernel
theorem dX12_tamper_72 : decode cX12_tamper 72 = .ok (.iload_n 3, 1) := by decide +kernel
theorem dX12_tamper_73 : decode cX12_tamper 73 = .ok (.iastore, 1) := by decide +kernel
theorem dX12_tamper_74 : decode cX12_tamper 74 = .ok (.iload 5, 2) := by decide +kernel
theorem dX12_tamper_76 : decode cX12_tamper 76 = .ok (.ireturn, 1) := by decide +kernel
theorem dX12_isLeftOut_0 : decode cX12_isLeftOut 0 = .ok (.aload_n 0, 1) := by decide +kernel
theorem dX12_isLeftOut_1 : decode cX12_isLeftOut 1 = .ok (.getfield 109, 3) := by decide +kernel
theorem dX12_isLeftOut_4 : decode cX12_isLeftOut 4 = .ok (.iload_n 1, 1) := by decide +kernel
theorem dX12_isLeftOut_5 : decode cX12_isLeftOut 5 = .ok (.iaload, 1) := by decide +kernel
theorem dX12_isLeftOut_6 : decode cX12_isLeftOut 6 = .ok (.iload_n 2, 1) := by decide +kernel
theorem dX12_isLeftOut_7 : decode cX12_isLeftOut 7 = .ok (.ishr, 1) := by decide +kernel
theorem dX12_isLeftOut_8 : decode cX12_isLeftOut 8 = .ok (.iconst 1, 1) := by decide +kernel
theorem dX12_isLeftOut_9 : decode cX12_isLeftOut 9 = .ok (.iand, 1) := by decide +kernel
theorem dX12_isLeftOut_10 : decode cX12_isLeftOut 10 = .ok (.iconst 1, 1) := by decide +kernel
theorem dX12_isLeftOut_11 : decode cX12_isLeftOut 11 = .ok (.if_icmp .ne 7, 3) := by decide +kernel
theorem dX12_isLeftOut_14 : decode cX12_isLeftOut 14 = .ok (.iconst 1, 1) := by decide +kernel
theorem dX12_isLeftOut_15 : decode cX12_isLeftOut 15 = .ok (.goto 4, 3) := by decide +kernel
theorem dX12_isLeftOut_18 : decode cX12_isLeftOut 18 = .ok (.iconst 0, 1) := by decide +kernel
theorem dX12_isLeftOut_19 : decode cX12_isLeftOut 19 = .ok (.ireturn, 1) := by decide +kernel
theorem dX12_copies_0 : decode cX12_copies 0 = .ok (.aload_n 0, 1) := by decide +kernel
theorem dX12_copies_1 : decode cX12_copies 1 = .ok (.getfield 100, 3) := by decide +kernel
theorem dX12_copies_4 : decode cX12_copies 4 = .ok (.iload_n 1, 1) := by decide +kernel
theorem dX12_copies_5 : decode cX12_copies 5 = .ok (.iaload, 1) := by decide +kernel
theorem dX12_copies_6 : decode cX12_copies 6 = .ok (.istore_n 3, 1) := by decide +kernel
theorem dX12_copies_7 : decode cX12_copies 7 = .ok (.aload_n 0, 1) := by decide +kernel
theorem dX12_copies_8 : decode cX12_copies 8 = .ok (.getfield 103, 3) := by decide +kernel
theorem dX12_copies_11 : decode cX12_copies 11 = .ok (.iload_n 1, 1) := by decide +kernel
theorem dX12_copies_12 : decode cX12_copies 12 = .ok (.iaload, 1) := by decide +kernel
theorem dX12_copies_13 : decode cX12_copies 13 = .ok (.iload_n 2, 1) := by decide +kernel
theorem dX12_copies_14 : decode cX12_copies 14 = .ok (.iadd, 1) := by decide +kernel
theorem dX12_copies_15 : decode cX12_copies 15 = .ok (.istore 4, 2) := by decide +kernel
theorem dX12_copies_17 : decode cX12_copies 17 = .ok (.aload_n 0, 1) := by decide +kernel
theorem dX12_copies_18 : decode cX12_copies 18 = .ok (.getfield 82, 3) := by decide +kernel
theorem dX12_copies_21 : decode cX12_copies 21 = .ok (.sipush 160, 3) := by decide +kernel
theorem dX12_copies_24 : decode cX12_copies 24 = .ok (.iload_n 3, 1) := by decide +kernel
theorem dX12_copies_25 : decode cX12_copies 25 = .ok (.imul, 1) := by decide +kernel
theorem dX12_copies_26 : decode cX12_copies 26 = .ok (.iload 4, 2) := by decide +kernel
theorem dX12_copies_28 : decode cX12_copies 28 = .ok (.iadd, 1) := by decide +kernel
theorem dX12_copies_29 : decode cX12_copies 29 = .ok (.iaload, 1) := by decide +kernel
theorem dX12_copies_30 : decode cX12_copies 30 = .ok (.istore 5, 2) := by decide +kernel
theorem dX12_copies_32 : decode cX12_copies 32 = .ok (.iconst 0, 1) := by decide +kernel
theorem dX12_copies_33 : decode cX12_copies 33 = .ok (.istore 6, 2) := by decide +kernel
theorem dX12_copies_35 : decode cX12_copies 35 = .ok (.iload 6, 2) := by decide +kernel
theorem dX12_copies_37 : decode cX12_copies 37 = .ok (.bipush 6, 2) := by decide +kernel
theorem dX12_copies_39 : decode cX12_copies 39 = .ok (.if_icmp .ge 67, 3) := by decide +kernel
theorem dX12_copies_42 : decode cX12_copies 42 = .ok (.aload_n 0, 1) := by decide +kernel
theorem dX12_copies_43 : decode cX12_copies 43 = .ok (.getfield 88, 3) := by decide +kernel
theorem dX12_copies_46 : decode cX12_copies 46 = .ok (.bipush 6, 2) := by decide +kernel
theorem dX12_copies_48 : decode cX12_copies 48 = .ok (.iload 5, 2) := by decide +kernel
theorem dX12_copies_50 : decode cX12_copies 50 = .ok (.imul, 1) := by decide +kernel
theorem dX12_copies_51 : decode cX12_copies 51 = .ok (.iload 6, 2) := by decide +kernel
theorem dX12_copies_53 : decode cX12_copies 53 = .ok (.iadd, 1) := by decide +kernel
theorem dX12_copies_54 : decode cX12_copies 54 = .ok (.iaload, 1) := by decide +kernel
theorem dX12_copies_55 : decode cX12_copies 55 = .ok (.istore 7, 2) := by decide +kernel
theorem dX12_copies_57 : decode cX12_copies 57 = .ok (.aload_n 0, 1) := by decide +kernel
theorem dX12_copies_58 : decode cX12_copies 58 = .ok (.getfield 115, 3) := by decide +kernel
theorem dX12_copies_61 : decode cX12_copies 61 = .ok (.bipush 6, 2) := by decide +kernel
theorem dX12_copies_63 : decode cX12_copies 63 = .ok (.sipush 160, 3) := by decide +kernel
theorem dX12_copies_66 : decode cX12_copies 66 = .ok (.iload_n 1, 1) := by decide +kernel
theorem dX12_copies_67 : decode cX12_copies 67 = .ok (.imul, 1) := by decide +kernel
theorem dX12_copies_68 : decode cX12_copies 68 = .ok (.iload_n 2, 1) := by decide +kernel
theorem dX12_copies_69 : decode cX12_copies 69 = .ok (.iadd, 1) := by decide +kernel
theorem dX12_copies_70 : decode cX12_copies 70 = .ok (.imul, 1) := by decide +kernel
theorem dX12_copies_71 : decode cX12_copies 71 = .ok (.iload 6, 2) := by decide +kernel
theorem dX12_copies_73 : decode cX12_copies 73 = .ok (.iadd, 1) := by decide +kernel
theorem dX12_copies_74 : decode cX12_copies 74 = .ok (.aload_n 0, 1) := by decide +kernel
theorem dX12_copies_75 : decode cX12_copies 75 = .ok (.iload_n 1, 1) := by decide +kernel
theorem dX12_copies_76 : decode cX12_copies 76 = .ok (.iload 6, 2) := by decide +kernel
theorem dX12_copies_78 : decode cX12_copies 78 = .ok (.invokevirtual 272, 3) := by decide +kernel
theorem dX12_copies_81 : decode cX12_copies 81 = .ok (.ifCond .eq 16, 3) := by decide +kernel
theorem dX12_copies_84 : decode cX12_copies 84 = .ok (.iload_n 3, 1) := by decide +kernel
theorem dX12_copies_85 : decode cX12_copies 85 = .ok (.iload 4, 2) := by decide +kernel
theorem dX12_copies_87 : decode cX12_copies 87 = .ok (.iload 6, 2) := by decide +kernel
theorem dX12_copies_89 : decode cX12_copies 89 = .ok (.iload 7, 2) := by decide +kernel
theorem dX12_copies_91 : decode cX12_copies 91 = .ok (.invokestatic 245, 3) := by decide +kernel
theorem dX12_copies_94 : decode cX12_copies 94 = .ok (.goto 5, 3) := by decide +kernel
theorem dX12_copies_97 : decode cX12_copies 97 = .ok (.iload 7, 2) := by decide +kernel
theorem dX12_copies_99 : decode cX12_copies 99 = .ok (.iastore, 1) := by decide +kernel
theorem dX12_copies_100 : decode cX12_copies 100 = .ok (.iinc 6 1, 3) := by decide +kernel
theorem dX12_copies_103 : decode cX12_copies 103 = .ok (.goto (-68), 3) := by decide +kernel
theorem dX12_copies_106 : decode cX12_copies 106 = .ok (.aload_n 0, 1) := by decide +kernel
theorem dX12_copies_107 : decode cX12_copies 107 = .ok (.getfield 118, 3) := by decide +kernel
theorem dX12_copies_110 : decode cX12_copies 110 = .ok (.sipush 160, 3) := by decide +kernel
theorem dX12_copies_113 : decode cX12_copies 113 = .ok (.iload_n 1, 1) := by decide +kernel
theorem dX12_copies_114 : decode cX12_copies 114 = .ok (.imul, 1) := by decide +kernel
theorem dX12_copies_115 : decode cX12_copies 115 = .ok (.iload_n 2, 1) := by decide +kernel
theorem dX12_copies_116 : decode cX12_copies 116 = .ok (.iadd, 1) := by decide +kernel
theorem dX12_copies_117 : decode cX12_copies 117 = .ok (.aload_n 0, 1) := by decide +kernel
theorem dX12_copies_118 : decode cX12_copies 118 = .ok (.getfield 94, 3) := by decide +kernel
theorem dX12_copies_121 : decode cX12_copies 121 = .ok (.iload 5, 2) := by decide +kernel
theorem dX12_copies_123 : decode cX12_copies 123 = .ok (.iaload, 1) := by decide +kernel
theorem dX12_copies_124 : decode cX12_copies 124 = .ok (.iastore, 1) := by decide +kernel
theorem dX12_copies_125 : decode cX12_copies 125 = .ok (.return_, 1) := by decide +kernel
theorem dX12_copy_0 : decode cX12_copy 0 = .ok (.aload_n 0, 1) := by decide +kernel
theorem dX12_copy_1 : decode cX12_copy 1 = .ok (.iload_n 1, 1) := by decide +kernel
theorem dX12_copy_2 : decode cX12_copy 2 = .ok (.iload_n 2, 1) := by decide +kernel
theorem dX12_copy_3 : decode cX12_copy 3 = .ok (.invokevirtual 269, 3) := by decide +kernel
theorem dX12_copy_6 : decode cX12_copy 6 = .ok (.ifCond .eq 16, 3) := by decide +kernel
theorem dX12_copy_9 : decode cX12_copy 9 = .ok (.aload_n 0, 1) := by decide +kernel
theorem dX12_copy_10 : decode cX12_copy 10 = .ok (.iload_n 1, 1) := by decide +kernel
theorem dX12_copy_11 : decode cX12_copy 11 = .ok (.iload_n 3, 1) := by decide +kernel
theorem dX12_copy_12 : decode cX12_copy 12 = .ok (.invokevirtual 269, 3) := by decide +kernel
theorem dX12_copy_15 : decode cX12_copy 15 = .ok (.ifCond .eq 7, 3) := by decide +kernel
theorem dX12_copy_18 : decode cX12_copy 18 = .ok (.iconst 1, 1) := by decide +kernel
theorem dX12_copy_19 : decode cX12_copy 19 = .ok (.goto 4, 3) := by decide +kernel
theorem dX12_copy_22 : decode cX12_copy 22 = .ok (.iconst 0, 1) := by decide +kernel
theorem dX12_copy_23 : decode cX12_copy 23 = .ok (.istore 5, 2) := by decide +kernel
theorem dX12_copy_25 : decode cX12_copy 25 = .ok (.aload_n 0, 1) := by decide +kernel
theorem dX12_copy_26 : decode cX12_copy 26 = .ok (.iload 5, 2) := by decide +kernel
theorem dX12_copy_28 : decode cX12_copy 28 = .ok (.ifCond .ne 7, 3) := by decide +kernel
theorem dX12_copy_31 : decode cX12_copy 31 = .ok (.iconst 1, 1) := by decide +kernel
theorem dX12_copy_32 : decode cX12_copy 32 = .ok (.goto 37, 3) := by decide +kernel
theorem dX12_copy_35 : decode cX12_copy 35 = .ok (.iload_n 3, 1) := by decide +kernel
theorem dX12_copy_36 : decode cX12_copy 36 = .ok (.iload_n 2, 1) := by decide +kernel
theorem dX12_copy_37 : decode cX12_copy 37 = .ok (.if_icmp .lt 14, 3) := by decide +kernel
theorem dX12_copy_40 : decode cX12_copy 40 = .ok (.iload 4, 2) := by decide +kernel
theorem dX12_copy_42 : decode cX12_copy 42 = .ok (.iconst 0, 1) := by decide +kernel
theorem dX12_copy_43 : decode cX12_copy 43 = .ok (.bipush 63, 2) := by decide +kernel
theorem dX12_copy_45 : decode cX12_copy 45 = .ok (.invokestatic 124, 3) := by decide +kernel
theorem dX12_copy_48 : decode cX12_copy 48 = .ok (.ifCond .ne 7, 3) := by decide +kernel
theorem dX12_copy_51 : decode cX12_copy 51 = .ok (.iconst 2, 1) := by decide +kernel
theorem dX12_copy_52 : decode cX12_copy 52 = .ok (.goto 17, 3) := by decide +kernel
theorem dX12_copy_55 : decode cX12_copy 55 = .ok (.aload_n 0, 1) := by decide +kernel
theorem dX12_copy_56 : decode cX12_copy 56 = .ok (.getfield 275, 3) := by decide +kernel
theorem dX12_copy_59 : decode cX12_copy 59 = .ok (.bipush 12, 2) := by decide +kernel
theorem dX12_copy_61 : decode cX12_copy 61 = .ok (.if_icmp .ne 7, 3) := by decide +kernel
theorem dX12_copy_64 : decode cX12_copy 64 = .ok (.iconst 3, 1) := by decide +kernel
theorem dX12_copy_65 : decode cX12_copy 65 = .ok (.goto 4, 3) := by decide +kernel
theorem dX12_copy_68 : decode cX12_copy 68 = .ok (.iconst 0, 1) := by decide +kernel
theorem dX12_copy_69 : decode cX12_copy 69 = .ok (.invokevirtual 143, 3) := by decide +kernel
theorem dX12_copy_72 : decode cX12_copy 72 = .ok (.ifCond .ne 5, 3) := by decide +kernel
theorem dX12_copy_75 : decode cX12_copy 75 = .ok (.iconst 0, 1) := by decide +kernel
theorem dX12_copy_76 : decode cX12_copy 76 = .ok (.ireturn, 1) := by decide +kernel
theorem dX12_copy_77 : decode cX12_copy 77 = .ok (.aload_n 0, 1) := by decide +kernel
theorem dX12_copy_78 : decode cX12_copy 78 = .ok (.getfield 100, 3) := by decide +kernel
theorem dX12_copy_81 : decode cX12_copy 81 = .ok (.aload_n 0, 1) := by decide +kernel
theorem dX12_copy_82 : decode cX12_copy 82 = .ok (.getfield 275, 3) := by decide +kernel
theorem dX12_copy_85 : decode cX12_copy 85 = .ok (.iload_n 1, 1) := by decide +kernel
theorem dX12_copy_86 : decode cX12_copy 86 = .ok (.iastore, 1) := by decide +kernel
theorem dX12_copy_87 : decode cX12_copy 87 = .ok (.aload_n 0, 1) := by decide +kernel
theorem dX12_copy_88 : decode cX12_copy 88 = .ok (.getfield 103, 3) := by decide +kernel
theorem dX12_copy_91 : decode cX12_copy 91 = .ok (.aload_n 0, 1) := by decide +kernel
theorem dX12_copy_92 : decode cX12_copy 92 = .ok (.getfield 275, 3) := by decide +kernel
theorem dX12_copy_95 : decode cX12_copy 95 = .ok (.iload_n 2, 1) := by decide +kernel
theorem dX12_copy_96 : decode cX12_copy 96 = .ok (.iastore, 1) := by decide +kernel
theorem dX12_copy_97 : decode cX12_copy 97 = .ok (.aload_n 0, 1) := by decide +kernel
theorem dX12_copy_98 : decode cX12_copy 98 = .ok (.getfield 106, 3) := by decide +kernel
theorem dX12_copy_101 : decode cX12_copy 101 = .ok (.aload_n 0, 1) := by decide +kernel
theorem dX12_copy_102 : decode cX12_copy 102 = .ok (.getfield 275, 3) := by decide +kernel
theorem dX12_copy_105 : decode cX12_copy 105 = .ok (.iload_n 3, 1) := by decide +kernel
theorem dX12_copy_106 : decode cX12_copy 106 = .ok (.iload_n 2, 1) := by decide +kernel
theorem dX12_copy_107 : decode cX12_copy 107 = .ok (.isub, 1) := by decide +kernel
theorem dX12_copy_108 : decode cX12_copy 108 = .ok (.iconst 1, 1) := by decide +kernel
theorem dX12_copy_109 : decode cX12_copy 109 = .ok (.iadd, 1) := by decide +kernel
theorem dX12_copy_110 : decode cX12_copy 110 = .ok (.iastore, 1) := by decide +kernel
theorem dX12_copy_111 : decode cX12_copy 111 = .ok (.aload_n 0, 1) := by decide +kernel
theorem dX12_copy_112 : decode cX12_copy 112 = .ok (.getfield 109, 3) := by decide +kernel
theorem dX12_copy_115 : decode cX12_copy 115 = .ok (.aload_n 0, 1) := by decide +kernel
theorem dX12_copy_116 : decode cX12_copy 116 = .ok (.getfield 275, 3) := by decide +kernel
theorem dX12_copy_119 : decode cX12_copy 119 = .ok (.iload 4, 2) := by decide +kernel
theorem dX12_copy_121 : decode cX12_copy 121 = .ok (.iastore, 1) := by decide +kernel
theorem dX12_copy_122 : decode cX12_copy 122 = .ok (.aload_n 0, 1) := by decide +kernel
theorem dX12_copy_123 : decode cX12_copy 123 = .ok (.getfield 112, 3) := by decide +kernel
theorem dX12_copy_126 : decode cX12_copy 126 = .ok (.aload_n 0, 1) := by decide +kernel
theorem dX12_copy_127 : decode cX12_copy 127 = .ok (.getfield 275, 3) := by decide +kernel
theorem dX12_copy_130 : decode cX12_copy 130 = .ok (.aload_n 0, 1) := by decide +kernel
theorem dX12_copy_131 : decode cX12_copy 131 = .ok (.iload_n 1, 1) := by decide +kernel
theorem dX12_copy_132 : decode cX12_copy 132 = .ok (.iload_n 2, 1) := by decide +kernel
theorem dX12_copy_133 : decode cX12_copy 133 = .ok (.invokevirtual 248, 3) := by decide +kernel
theorem dX12_copy_136 : decode cX12_copy 136 = .ok (.iastore, 1) := by decide +kernel
theorem dX12_copy_137 : decode cX12_copy 137 = .ok (.iconst 0, 1) := by decide +kernel
theorem dX12_copy_138 : decode cX12_copy 138 = .ok (.istore 6, 2) := by decide +kernel
theorem dX12_copy_140 : decode cX12_copy 140 = .ok (.iload 6, 2) := by decide +kernel
theorem dX12_copy_142 : decode cX12_copy 142 = .ok (.iload_n 3, 1) := by decide +kernel
theorem dX12_copy_143 : decode cX12_copy 143 = .ok (.iload_n 2, 1) := by decide +kernel
theorem dX12_copy_144 : decode cX12_copy 144 = .ok (.isub, 1) := by decide +kernel
theorem dX12_copy_145 : decode cX12_copy 145 = .ok (.if_icmp .gt 19, 3) := by decide +kernel
theorem dX12_copy_148 : decode cX12_copy 148 = .ok (.aload_n 0, 1) := by decide +kernel
theorem dX12_copy_149 : decode cX12_copy 149 = .ok (.aload_n 0, 1) := by decide +kernel
theorem dX12_copy_150 : decode cX12_copy 150 = .ok (.getfield 275, 3) := by decide +kernel
theorem dX12_copy_153 : decode cX12_copy 153 = .ok (.iload 6, 2) := by decide +kernel
theorem dX12_copy_155 : decode cX12_copy 155 = .ok (.invokevirtual 278, 3) := by decide +kernel
theorem dX12_copy_158 : decode cX12_copy 158 = .ok (.iinc 6 1, 3) := by decide +kernel
theorem dX12_copy_161 : decode cX12_copy 161 = .ok (.goto (-21), 3) := by decide +kernel
theorem dX12_copy_164 : decode cX12_copy 164 = .ok (.aload_n 0, 1) := by decide +kernel
theorem dX12_copy_165 : decode cX12_copy 165 = .ok (.dup, 1) := by decide +kernel
theorem dX12_copy_166 : decode cX12_copy 166 = .ok (.getfield 275, 3) := by decide +kernel
theorem dX12_copy_169 : decode cX12_copy 169 = .ok (.iconst 1, 1) := by decide +kernel
theorem dX12_copy_170 : decode cX12_copy 170 = .ok (.iadd, 1) := by decide +kernel
theorem dX12_copy_171 : decode cX12_copy 171 = .ok (.putfield 275, 3) := by decide +kernel
theorem dX12_copy_174 : decode cX12_copy 174 = .ok (.aload_n 0, 1) := by decide +kernel
theorem dX12_copy_175 : decode cX12_copy 175 = .ok (.getfield 275, 3) := by decide +kernel
theorem dX12_copy_178 : decode cX12_copy 178 = .ok (.iconst 1, 1) := by decide +kernel
theorem dX12_copy_179 : decode cX12_copy 179 = .ok (.isub, 1) := by decide +kernel
theorem dX12_copy_180 : decode cX12_copy 180 = .ok (.ireturn, 1) := by decide +kernel
theorem dX12_isCopy_0 : decode cX12_isCopy 0 = .ok (.iload_n 1, 1) := by decide +kernel
theorem dX12_isCopy_1 : decode cX12_isCopy 1 = .ok (.iconst 0, 1) := by decide +kernel
theorem dX12_isCopy_2 : decode cX12_isCopy 2 = .ok (.aload_n 0, 1) := by decide +kernel
theorem dX12_isCopy_3 : decode cX12_isCopy 3 = .ok (.getfield 275, 3) := by decide +kernel
theorem dX12_isCopy_6 : decode cX12_isCopy 6 = .ok (.iconst 1, 1) := by decide +kernel
theorem dX12_isCopy_7 : decode cX12_isCopy 7 = .ok (.isub, 1) := by decide +kernel
theorem dX12_isCopy_8 : decode cX12_isCopy 8 = .ok (.invokestatic 124, 3) := by decide +kernel
theorem dX12_isCopy_11 : decode cX12_isCopy 11 = .ok (.ireturn, 1) := by decide +kernel
theorem dX12_isCopied_0 : decode cX12_isCopied 0 = .ok (.aload_n 0, 1) := by decide +kernel
theorem dX12_isCopied_1 : decode cX12_isCopied 1 = .ok (.iload_n 1, 1) := by decide +kernel
theorem dX12_isCopied_2 : decode cX12_isCopied 2 = .ok (.invokevirtual 281, 3) := by decide +kernel
theorem dX12_isCopied_5 : decode cX12_isCopied 5 = .ok (.ifCond .eq 32, 3) := by decide +kernel
theorem dX12_isCopied_8 : decode cX12_isCopied 8 = .ok (.iload_n 2, 1) := by decide +kernel
theorem dX12_isCopied_9 : decode cX12_isCopied 9 = .ok (.iconst 0, 1) := by decide +kernel
theorem dX12_isCopied_10 : decode cX12_isCopied 10 = .ok (.aload_n 0, 1) := by decide +kernel
theorem dX12_isCopied_11 : decode cX12_isCopied 11 = .ok (.getfield 106, 3) := by decide +kernel
theorem dX12_isCopied_14 : decode cX12_isCopied 14 = .ok (.iload_n 1, 1) := by decide +kernel
theorem dX12_isCopied_15 : decode cX12_isCopied 15 = .ok (.iaload, 1) := by decide +kernel
theorem dX12_isCopied_16 : decode cX12_isCopied 16 = .ok (.iconst 1, 1) := by decide +kernel
theorem dX12_isCopied_17 : decode cX12_isCopied 17 = .ok (.isub, 1) := by decide +kernel
theorem dX12_isCopied_18 : decode cX12_isCopied 18 = .ok (.invokestatic 124, 3) := by decide +kernel
theorem dX12_isCopied_21 : decode cX12_isCopied 21 = .ok (.ifCond .eq 16, 3) := by decide +kernel
theorem dX12_isCopied_24 : decode cX12_isCopied 24 = .ok (.iload_n 3, 1) := by decide +kernel
theorem dX12_isCopied_25 : decode cX12_isCopied 25 = .ok (.iconst 0, 1) := by decide +kernel
theorem dX12_isCopied_26 : decode cX12_isCopied 26 = .ok (.iconst 5, 1) := by decide +kernel
theorem dX12_isCopied_27 : decode cX12_isCopied 27 = .ok (.invokestatic 124, 3) := by decide +kernel
theorem dX12_isCopied_30 : decode cX12_isCopied 30 = .ok (.ifCond .eq 7, 3) := by decide +kernel
theorem dX12_isCopied_33 : decode cX12_isCopied 33 = .ok (.iconst 1, 1) := by decide +kernel
theorem dX12_isCopied_34 : decode cX12_isCopied 34 = .ok (.goto 4, 3) := by decide +kernel
theorem dX12_isCopied_37 : decode cX12_isCopied 37 = .ok (.iconst 0, 1) := by decide +kernel
theorem dX12_isCopied_38 : decode cX12_isCopied 38 = .ok (.ireturn, 1) := by decide +kernel
theorem dX12_forge_0 : decode cX12_forge 0 = .ok (.aload_n 0, 1) := by decide +kernel
theorem dX12_forge_1 : decode cX12_forge 1 = .ok (.iload_n 1, 1) := by decide +kernel
theorem dX12_forge_2 : decode cX12_forge 2 = .ok (.iload_n 2, 1) := by decide +kernel
theorem dX12_forge_3 : decode cX12_forge 3 = .ok (.iload_n 3, 1) := by decide +kernel
theorem dX12_forge_4 : decode cX12_forge 4 = .ok (.invokevirtual 284, 3) := by decide +kernel
theorem dX12_forge_7 : decode cX12_forge 7 = .ok (.istore 5, 2) := by decide +kernel
theorem dX12_forge_9 : decode cX12_forge 9 = .ok (.aload_n 0, 1) := by decide +kernel
theorem dX12_forge_10 : decode cX12_forge 10 = .ok (.iload 5, 2) := by decide +kernel
theorem dX12_forge_12 : decode cX12_forge 12 = .ok (.ifCond .ne 7, 3) := by decide +kernel
theorem dX12_forge_15 : decode cX12_forge 15 = .ok (.iconst 1, 1) := by decide +kernel
theorem dX12_forge_16 : decode cX12_forge 16 = .ok (.goto 33, 3) := by decide +kernel
theorem dX12_forge_19 : decode cX12_forge 19 = .ok (.iload 4, 2) := by decide +kernel
theorem dX12_forge_21 : decode cX12_forge 21 = .ok (.iconst 0, 1) := by decide +kernel
theorem dX12_forge_22 : decode cX12_forge 22 = .ok (.sipush 10000, 3) := by decide +kernel
theorem dX12_forge_25 : decode cX12_forge 25 = .ok (.invokestatic 124, 3) := by decide +kernel
theorem dX12_forge_28 : decode cX12_forge 28 = .ok (.ifCond .ne 7, 3) := by decide +kernel
theorem dX12_forge_31 : decode cX12_forge 31 = .ok (.iconst 2, 1) := by decide +kernel
theorem dX12_forge_32 : decode cX12_forge 32 = .ok (.goto 17, 3) := by decide +kernel
theorem dX12_forge_35 : decode cX12_forge 35 = .ok (.aload_n 0, 1) := by decide +kernel
theorem dX12_forge_36 : decode cX12_forge 36 = .ok (.iload_n 1, 1) := by decide +kernel
theorem dX12_forge_37 : decode cX12_forge 37 = .ok (.iload_n 3, 1) := by decide +kernel
theorem dX12_forge_38 : decode cX12_forge 38 = .ok (.invokevirtual 272, 3) := by decide +kernel
theorem dX12_forge_41 : decode cX12_forge 41 = .ok (.ifCond .eq 7, 3) := by decide +kernel
theorem dX12_forge_44 : decode cX12_forge 44 = .ok (.iconst 3, 1) := by decide +kernel
theorem dX12_forge_45 : decode cX12_forge 45 = .ok (.goto 4, 3) := by decide +kernel
theorem dX12_forge_48 : decode cX12_forge 48 = .ok (.iconst 0, 1) := by decide +kernel
theorem dX12_forge_49 : decode cX12_forge 49 = .ok (.invokevirtual 143, 3) := by decide +kernel
theorem dX12_forge_52 : decode cX12_forge 52 = .ok (.ifCond .ne 5, 3) := by decide +kernel
theorem dX12_forge_55 : decode cX12_forge 55 = .ok (.iconst 0, 1) := by decide +kernel
theorem dX12_forge_56 : decode cX12_forge 56 = .ok (.ireturn, 1) := by decide +kernel
theorem dX12_forge_57 : decode cX12_forge 57 = .ok (.bipush 6, 2) := by decide +kernel
theorem dX12_forge_59 : decode cX12_forge 59 = .ok (.sipush 160, 3) := by decide +kernel
theorem dX12_forge_62 : decode cX12_forge 62 = .ok (.iload_n 1, 1) := by decide +kernel
theorem dX12_forge_63 : decode cX12_forge 63 = .ok (.imul, 1) := by decide +kernel
theorem dX12_forge_64 : decode cX12_forge 64 = .ok (.iload_n 2, 1) := by decide +kernel
theorem dX12_forge_65 : decode cX12_forge 65 = .ok (.iadd, 1) := by decide +kernel
theorem dX12_forge_66 : decode cX12_forge 66 = .ok (.imul, 1) := by decide +kernel
theorem dX12_forge_67 : decode cX12_forge 67 = .ok (.iload_n 3, 1) := by decide +kernel
theorem dX12_forge_68 : decode cX12_forge 68 = .ok (.iadd, 1) := by decide +kernel
theorem dX12_forge_69 : decode cX12_forge 69 = .ok (.istore 6, 2) := by decide +kernel
theorem dX12_forge_71 : decode cX12_forge 71 = .ok (.aload_n 0, 1) := by decide +kernel
theorem dX12_forge_72 : decode cX12_forge 72 = .ok (.getfield 115, 3) := by decide +kernel
theorem dX12_forge_75 : decode cX12_forge 75 = .ok (.iload 6, 2) := by decide +kernel
theorem dX12_forge_77 : decode cX12_forge 77 = .ok (.iaload, 1) := by decide +kernel
theorem dX12_forge_78 : decode cX12_forge 78 = .ok (.istore 7, 2) := by decide +kernel
theorem dX12_forge_80 : decode cX12_forge 80 = .ok (.aload_n 0, 1) := by decide +kernel
theorem dX12_forge_81 : decode cX12_forge 81 = .ok (.getfield 115, 3) := by decide +kernel
theorem dX12_forge_84 : decode cX12_forge 84 = .ok (.iload 6, 2) := by decide +kernel
theorem dX12_forge_86 : decode cX12_forge 86 = .ok (.iload 4, 2) := by decide +kernel
theorem dX12_forge_88 : decode cX12_forge 88 = .ok (.iastore, 1) := by decide +kernel
theorem dX12_forge_89 : decode cX12_forge 89 = .ok (.iload 7, 2) := by decide +kernel
theorem dX12_forge_91 : decode cX12_forge 91 = .ok (.ireturn, 1) := by decide +kernel
theorem dX12_hour_0 : decode cX12_hour 0 = .ok (.aload_n 0, 1) := by decide +kernel
theorem dX12_hour_1 : decode cX12_hour 1 = .ok (.iconst 0, 1) := by decide +kernel
theorem dX12_hour_2 : decode cX12_hour 2 = .ok (.putfield 121, 3) := by decide +kernel
theorem dX12_hour_5 : decode cX12_hour 5 = .ok (.aload_n 0, 1) := by decide +kernel
theorem dX12_hour_6 : decode cX12_hour 6 = .ok (.getfield 150, 3) := by decide +kernel
theorem dX12_hour_9 : decode cX12_hour 9 = .ok (.ireturn, 1) := by decide +kernel
theorem dX12_news_0 : decode cX12_news 0 = .ok (.aload_n 0, 1) := by decide +kernel
theorem dX12_news_1 : decode cX12_news 1 = .ok (.iconst 0, 1) := by decide +kernel
theorem dX12_news_2 : decode cX12_news 2 = .ok (.putfield 121, 3) := by decide +kernel
theorem dX12_news_5 : decode cX12_news 5 = .ok (.aload_n 0, 1) := by decide +kernel
theorem dX12_news_6 : decode cX12_news 6 = .ok (.getfield 153, 3) := by decide +kernel
theorem dX12_news_9 : decode cX12_news 9 = .ok (.ireturn, 1) := by decide +kernel
theorem dX12_powers_0 : decode cX12_powers 0 = .ok (.aload_n 0, 1) := by decide +kernel
theorem dX12_powers_1 : decode cX12_powers 1 = .ok (.iconst 0, 1) := by decide +kernel
theorem dX12_powers_2 : decode cX12_powers 2 = .ok (.putfield 121, 3) := by decide +kernel
theorem dX12_powers_5 : decode cX12_powers 5 = .ok (.aload_n 0, 1) := by decide +kernel
theorem dX12_powers_6 : decode cX12_powers 6 = .ok (.getfield 128, 3) := by decide +kernel
theorem dX12_powers_9 : decode cX12_powers 9 = .ok (.ireturn, 1) := by decide +kernel
theorem dX12_records_0 : decode cX12_records 0 = .ok (.aload_n 0, 1) := by decide +kernel
theorem dX12_records_1 : decode cX12_records 1 = .ok (.iload_n 1, 1) := by decide +kernel
theorem dX12_records_2 : decode cX12_records 2 = .ok (.invokestatic 131, 3) := by decide +kernel
theorem dX12_records_5 : decode cX12_records 5 = .ok (.ifCond .eq 7, 3) := by decide +kernel
theorem dX12_records_8 : decode cX12_records 8 = .ok (.iconst 0, 1) := by decide +kernel
theorem dX12_records_9 : decode cX12_records 9 = .ok (.goto 4, 3) := by decide +kernel
theorem dX12_records_12 : decode cX12_records 12 = .ok (.iconst 1, 1) := by decide +kernel
theorem dX12_records_13 : decode cX12_records 13 = .ok (.invokevirtual 143, 3) := by decide +kernel
theorem dX12_records_16 : decode cX12_records 16 = .ok (.ifCond .eq 12, 3) := by decide +kernel
theorem dX12_records_19 : decode cX12_records 19 = .ok (.aload_n 0, 1) := by decide +kernel
theorem dX12_records_20 : decode cX12_records 20 = .ok (.getfield 79, 3) := by decide +kernel
theorem dX12_records_23 : decode cX12_records 23 = .ok (.iload_n 1, 1) := by decide +kernel
theorem dX12_records_24 : decode cX12_records 24 = .ok (.iaload, 1) := by decide +kernel
theorem dX12_records_25 : decode cX12_records 25 = .ok (.goto 4, 3) := by decide +kernel
theorem dX12_records_28 : decode cX12_records 28 = .ok (.iconst 0, 1) := by decide +kernel
theorem dX12_records_29 : decode cX12_records 29 = .ok (.ireturn, 1) := by decide +kernel
theorem dX12_areJoined_0 : decode cX12_areJoined 0 = .ok (.aload_n 0, 1) := by decide +kernel
theorem dX12_areJoined_1 : decode cX12_areJoined 1 = .ok (.iload_n 1, 1) := by decide +kernel
theorem dX12_areJoined_2 : decode cX12_areJoined 2 = .ok (.invokestatic 131, 3) := by decide +kernel
theorem dX12_areJoined_5 : decode cX12_areJoined 5 = .ok (.ifCond .eq 14, 3) := by decide +kernel
theorem dX12_areJoined_8 : decode cX12_areJoined 8 = .ok (.iload_n 2, 1) := by decide +kernel
theorem dX12_areJoined_9 : decode cX12_areJoined 9 = .ok (.invokestatic 131, 3) := by decide +kernel
theorem dX12_areJoined_12 : decode cX12_areJoined 12 = .ok (.ifCond .eq 7, 3) := by decide +kernel
theorem dX12_areJoined_15 : decode cX12_areJoined 15 = .ok (.iconst 0, 1) := by decide +kernel
theorem dX12_areJoined_16 : decode cX12_areJoined 16 = .ok (.goto 4, 3) := by decide +kernel
theorem dX12_areJoined_19 : decode cX12_areJoined 19 = .ok (.iconst 1, 1) := by decide +kernel
theorem dX12_areJoined_20 : decode cX12_areJoined 20 = .ok (.invokevirtual 143, 3) := by decide +kernel
theorem dX12_areJoined_23 : decode cX12_areJoined 23 = .ok (.ifCond .eq 21, 3) := by decide +kernel
theorem dX12_areJoined_26 : decode cX12_areJoined 26 = .ok (.aload_n 0, 1) := by decide +kernel
theorem dX12_areJoined_27 : decode cX12_areJoined 27 = .ok (.getfield 7, 3) := by decide +kernel
theorem dX12_areJoined_30 : decode cX12_areJoined 30 = .ok (.iload_n 1, 1) := by decide +kernel
theorem dX12_areJoined_31 : decode cX12_areJoined 31 = .ok (.iaload, 1) := by decide +kernel
theorem dX12_areJoined_32 : decode cX12_areJoined 32 = .ok (.iload_n 2, 1) := by decide +kernel
theorem dX12_areJoined_33 : decode cX12_areJoined 33 = .ok (.ishr, 1) := by decide +kernel
theorem dX12_areJoined_34 : decode cX12_areJoined 34 = .ok (.iconst 1, 1) := by decide +kernel
theorem dX12_areJoined_35 : decode cX12_areJoined 35 = .ok (.iand, 1) := by decide +kernel
theorem dX12_areJoined_36 : decode cX12_areJoined 36 = .ok (.iconst 1, 1) := by decide +kernel
theorem dX12_areJoined_37 : decode cX12_areJoined 37 = .ok (.if_icmp .ne 7, 3) := by decide +kernel
theorem dX12_areJoined_40 : decode cX12_areJoined 40 = .ok (.iconst 1, 1) := by decide +kernel
theorem dX12_areJoined_41 : decode cX12_areJoined 41 = .ok (.goto 4, 3) := by decide +kernel
theorem dX12_areJoined_44 : decode cX12_areJoined 44 = .ok (.iconst 0, 1) := by decide +kernel
theorem dX12_areJoined_45 : decode cX12_areJoined 45 = .ok (.ireturn, 1) := by decide +kernel
theorem dX12_isPiece_0 : decode cX12_isPiece 0 = .ok (.aload_n 0, 1) := by decide +kernel
theorem dX12_isPiece_1 : decode cX12_isPiece 1 = .ok (.iload_n 1, 1) := by decide +kernel
theorem dX12_isPiece_2 : decode cX12_isPiece 2 = .ok (.invokestatic 131, 3) := by decide +kernel
theorem dX12_isPiece_5 : decode cX12_isPiece 5 = .ok (.ifCond .eq 21, 3) := by decide +kernel
theorem dX12_isPiece_8 : decode cX12_isPiece 8 = .ok (.iload_n 2, 1) := by decide +kernel
theorem dX12_isPiece_9 : decode cX12_isPiece 9 = .ok (.iconst 0, 1) := by decide +kernel
theorem dX12_isPiece_10 : decode cX12_isPiece 10 = .ok (.aload_n 0, 1) := by decide +kernel
theorem dX12_isPiece_11 : decode cX12_isPiece 11 = .ok (.getfield 153, 3) := by decide +kernel
theorem dX12_isPiece_14 : decode cX12_isPiece 14 = .ok (.iconst 1, 1) := by decide +kernel
theorem dX12_isPiece_15 : decode cX12_isPiece 15 = .ok (.isub, 1) := by decide +kernel
theorem dX12_isPiece_16 : decode cX12_isPiece 16 = .ok (.invokestatic 124, 3) := by decide +kernel
theorem dX12_isPiece_19 : decode cX12_isPiece 19 = .ok (.ifCond .eq 7, 3) := by decide +kernel
theorem dX12_isPiece_22 : decode cX12_isPiece 22 = .ok (.iconst 0, 1) := by decide +kernel
theorem dX12_isPiece_23 : decode cX12_isPiece 23 = .ok (.goto 4, 3) := by decide +kernel
theorem dX12_isPiece_26 : decode cX12_isPiece 26 = .ok (.iconst 1, 1) := by decide +kernel
theorem dX12_isPiece_27 : decode cX12_isPiece 27 = .ok (.invokevirtual 143, 3) := by decide +kernel
theorem dX12_isPiece_30 : decode cX12_isPiece 30 = .ok (.ireturn, 1) := by decide +kernel
theorem dX12_came_0 : decode cX12_came 0 = .ok (.aload_n 0, 1) := by decide +kernel
theorem dX12_came_1 : decode cX12_came 1 = .ok (.iload_n 1, 1) := by decide +kernel
theorem dX12_came_2 : decode cX12_came 2 = .ok (.iload_n 2, 1) := by decide +kernel
theorem dX12_came_3 : decode cX12_came 3 = .ok (.invokevirtual 287, 3) := by decide +kernel
theorem dX12_came_6 : decode cX12_came 6 = .ok (.ifCond .eq 18, 3) := by decide +kernel
theorem dX12_came_9 : decode cX12_came 9 = .ok (.aload_n 0, 1) := by decide +kernel
theorem dX12_came_10 : decode cX12_came 10 = .ok (.getfield 31, 3) := by decide +kernel
theorem dX12_came_13 : decode cX12_came 13 = .ok (.sipush 160, 3) := by decide +kernel
theorem dX12_came_16 : decode cX12_came 16 = .ok (.iload_n 1, 1) := by decide +kernel
theorem dX12_came_17 : decode cX12_came 17 = .ok (.imul, 1) := by decide +kernel
theorem dX12_came_18 : decode cX12_came 18 = .ok (.iload_n 2, 1) := by decide +kernel
theorem dX12_came_19 : decode cX12_came 19 = .ok (.iadd, 1) := by decide +kernel
theorem dX12_came_20 : decode cX12_came 20 = .ok (.iaload, 1) := by decide +kernel
theorem dX12_came_21 : decode cX12_came 21 = .ok (.goto 4, 3) := by decide +kernel
theorem dX12_came_24 : decode cX12_came 24 = .ok (.iconst 0, 1) := by decide +kernel
theorem dX12_came_25 : decode cX12_came 25 = .ok (.ireturn, 1) := by decide +kernel
theorem dX12_cameByLinks_0 : decode cX12_cameByLinks 0 = .ok (.aload_n 0, 1) := by decide +kernel
theorem dX12_cameByLinks_1 : decode cX12_cameByLinks 1 = .ok (.iload_n 1, 1) := by decide +kernel
theorem dX12_cameByLinks_2 : decode cX12_cameByLinks 2 = .ok (.iload_n 2, 1) := by decide +kernel
theorem dX12_cameByLinks_3 : decode cX12_cameByLinks 3 = .ok (.invokevirtual 287, 3) := by decide +kernel
theorem dX12_cameByLinks_6 : decode cX12_cameByLinks 6 = .ok (.ifCond .eq 18, 3) := by decide +kernel
theorem dX12_cameByLinks_9 : decode cX12_cameByLinks 9 = .ok (.aload_n 0, 1) := by decide +kernel
theorem dX12_cameByLinks_10 : decode cX12_cameByLinks 10 = .ok (.getfield 31, 3) := by decide +kernel
theorem dX12_cameByLinks_13 : decode cX12_cameByLinks 13 = .ok (.sipush 160, 3) := by decide +kernel
theorem dX12_cameByLinks_16 : decode cX12_cameByLinks 16 = .ok (.iload_n 1, 1) := by decide +kernel
theorem dX12_cameByLinks_17 : decode cX12_cameByLinks 17 = .ok (.imul, 1) := by decide +kernel
theorem dX12_cameByLinks_18 : decode cX12_cameByLinks 18 = .ok (.iload_n 2, 1) := by decide +kernel
theorem dX12_cameByLinks_19 : decode cX12_cameByLinks 19 = .ok (.iadd, 1) := by decide +kernel
theorem dX12_cameByLinks_20 : decode cX12_cameByLinks 20 = .ok (.iaload, 1) := by decide +kernel
theorem dX12_cameByLinks_21 : decode cX12_cameByLinks 21 = .ok (.goto 4, 3) := by decide +kernel
theorem dX12_cameByLinks_24 : decode cX12_cameByLinks 24 = .ok (.iconst 0, 1) := by decide +kernel
theorem dX12_cameByLinks_25 : decode cX12_cameByLinks 25 = .ok (.ireturn, 1) := by decide +kernel
theorem dX12_isRead_0 : decode cX12_isRead 0 = .ok (.aload_n 0, 1) := by decide +kernel
theorem dX12_isRead_1 : decode cX12_isRead 1 = .ok (.iload_n 1, 1) := by decide +kernel
theorem dX12_isRead_2 : decode cX12_isRead 2 = .ok (.iload_n 2, 1) := by decide +kernel
theorem dX12_isRead_3 : decode cX12_isRead 3 = .ok (.invokevirtual 287, 3) := by decide +kernel
theorem dX12_isRead_6 : decode cX12_isRead 6 = .ok (.ifCond .eq 22, 3) := by decide +kernel
theorem dX12_isRead_9 : decode cX12_isRead 9 = .ok (.aload_n 0, 1) := by decide +kernel
theorem dX12_isRead_10 : decode cX12_isRead 10 = .ok (.getfield 34, 3) := by decide +kernel
theorem dX12_isRead_13 : decode cX12_isRead 13 = .ok (.sipush 160, 3) := by decide +kernel
theorem dX12_isRead_16 : decode cX12_isRead 16 = .ok (.iload_n 1, 1) := by decide +kernel
theorem dX12_isRead_17 : decode cX12_isRead 17 = .ok (.imul, 1) := by decide +kernel
theorem dX12_isRead_18 : decode cX12_isRead 18 = .ok (.iload_n 2, 1) := by decide +kernel
theorem dX12_isRead_19 : decode cX12_isRead 19 = .ok (.iadd, 1) := by decide +kernel
theorem dX12_isRead_20 : decode cX12_isRead 20 = .ok (.baload, 1) := by decide +kernel
theorem dX12_isRead_21 : decode cX12_isRead 21 = .ok (.ifCond .eq 7, 3) := by decide +kernel
theorem dX12_isRead_24 : decode cX12_isRead 24 = .ok (.iconst 1, 1) := by decide +kernel
theorem dX12_isRead_25 : decode cX12_isRead 25 = .ok (.goto 4, 3) := by decide +kernel
theorem dX12_isRead_28 : decode cX12_isRead 28 = .ok (.iconst 0, 1) := by decide +kernel
theorem dX12_isRead_29 : decode cX12_isRead 29 = .ok (.ireturn, 1) := by decide +kernel
theorem dX12_mail_0 : decode cX12_mail 0 = .ok (.aload_n 0, 1) := by decide +kernel
theorem dX12_mail_1 : decode cX12_mail 1 = .ok (.iload_n 1, 1) := by decide +kernel
theorem dX12_mail_2 : decode cX12_mail 2 = .ok (.invokestatic 131, 3) := by decide +kernel
theorem dX12_mail_5 : decode cX12_mail 5 = .ok (.ifCond .eq 7, 3) := by decide +kernel
theorem dX12_mail_8 : decode cX12_mail 8 = .ok (.iconst 0, 1) := by decide +kernel
theorem dX12_mail_9 : decode cX12_mail 9 = .ok (.goto 4, 3) := by decide +kernel
theorem dX12_mail_12 : decode cX12_mail 12 = .ok (.iconst 1, 1) := by decide +kernel
theorem dX12_mail_13 : decode cX12_mail 13 = .ok (.invokevirtual 143, 3) := by decide +kernel
theorem dX12_mail_16 : decode cX12_mail 16 = .ok (.ifCond .eq 11, 3) := by decide +kernel
theorem dX12_mail_19 : decode cX12_mail 19 = .ok (.aload_n 0, 1) := by decide +kernel
theorem dX12_mail_20 : decode cX12_mail 20 = .ok (.iload_n 1, 1) := by decide +kernel
theorem dX12_mail_21 : decode cX12_mail 21 = .ok (.invokevirtual 159, 3) := by decide +kernel
theorem dX12_mail_24 : decode cX12_mail 24 = .ok (.goto 4, 3) := by decide +kernel
theorem dX12_mail_27 : decode cX12_mail 27 = .ok (.iconst 0, 1) := by decide +kernel
theorem dX12_mail_28 : decode cX12_mail 28 = .ok (.ireturn, 1) := by decide +kernel
theorem dX12_source_0 : decode cX12_source 0 = .ok (.aload_n 0, 1) := by decide +kernel
theorem dX12_source_1 : decode cX12_source 1 = .ok (.aload_n 0, 1) := by decide +kernel
theorem dX12_source_2 : decode cX12_source 2 = .ok (.iload_n 1, 1) := by decide +kernel
theorem dX12_source_3 : decode cX12_source 3 = .ok (.invokevirtual 217, 3) := by decide +kernel
theorem dX12_source_6 : decode cX12_source 6 = .ok (.ifCond .eq 7, 3) := by decide +kernel
theorem dX12_source_9 : decode cX12_source 9 = .ok (.iconst 0, 1) := by decide +kernel
theorem dX12_source_10 : decode cX12_source 10 = .ok (.goto 4, 3) := by decide +kernel
theorem dX12_source_13 : decode cX12_source 13 = .ok (.iconst 1, 1) := by decide +kernel
theorem dX12_source_14 : decode cX12_source 14 = .ok (.invokevirtual 143, 3) := by decide +kernel
theorem dX12_source_17 : decode cX12_source 17 = .ok (.ifCond .eq 12, 3) := by decide +kernel
theorem dX12_source_20 : decode cX12_source 20 = .ok (.aload_n 0, 1) := by decide +kernel
theorem dX12_source_21 : decode cX12_source 21 = .ok (.getfield 47, 3) := by decide +kernel
theorem dX12_source_24 : decode cX12_source 24 = .ok (.iload_n 1, 1) := by decide +kernel
theorem dX12_source_25 : decode cX12_source 25 = .ok (.iaload, 1) := by decide +kernel
theorem dX12_source_26 : decode cX12_source 26 = .ok (.goto 4, 3) := by decide +kernel
theorem dX12_source_29 : decode cX12_source 29 = .ok (.iconst 0, 1) := by decide +kernel
theorem dX12_source_30 : decode cX12_source 30 = .ok (.ireturn, 1) := by decide +kernel
theorem dX12_holder_0 : decode cX12_holder 0 = .ok (.aload_n 0, 1) := by decide +kernel
theorem dX12_holder_1 : decode cX12_holder 1 = .ok (.aload_n 0, 1) := by decide +kernel
theorem dX12_holder_2 : decode cX12_holder 2 = .ok (.iload_n 1, 1) := by decide +kernel
theorem dX12_holder_3 : decode cX12_holder 3 = .ok (.invokevirtual 217, 3) := by decide +kernel
theorem dX12_holder_6 : decode cX12_holder 6 = .ok (.ifCond .eq 7, 3) := by decide +kernel
theorem dX12_holder_9 : decode cX12_holder 9 = .ok (.iconst 0, 1) := by decide +kernel
theorem dX12_holder_10 : decode cX12_holder 10 = .ok (.goto 4, 3) := by decide +kernel
theorem dX12_holder_13 : decode cX12_holder 13 = .ok (.iconst 1, 1) := by decide +kernel
theorem dX12_holder_14 : decode cX12_holder 14 = .ok (.invokevirtual 143, 3) := by decide +kernel
theorem dX12_holder_17 : decode cX12_holder 17 = .ok (.ifCond .eq 12, 3) := by decide +kernel
theorem dX12_holder_20 : decode cX12_holder 20 = .ok (.aload_n 0, 1) := by decide +kernel
theorem dX12_holder_21 : decode cX12_holder 21 = .ok (.getfield 44, 3) := by decide +kernel
theorem dX12_holder_24 : decode cX12_holder 24 = .ok (.iload_n 1, 1) := by decide +kernel
theorem dX12_holder_25 : decode cX12_holder 25 = .ok (.iaload, 1) := by decide +kernel
theorem dX12_holder_26 : decode cX12_holder 26 = .ok (.goto 4, 3) := by decide +kernel
theorem dX12_holder_29 : decode cX12_holder 29 = .ok (.iconst 0, 1) := by decide +kernel
theorem dX12_holder_30 : decode cX12_holder 30 = .ok (.ireturn, 1) := by decide +kernel
theorem dX12_isGood_0 : decode cX12_isGood 0 = .ok (.aload_n 0, 1) := by decide +kernel
theorem dX12_isGood_1 : decode cX12_isGood 1 = .ok (.iload_n 1, 1) := by decide +kernel
theorem dX12_isGood_2 : decode cX12_isGood 2 = .ok (.invokestatic 131, 3) := by decide +kernel
theorem dX12_isGood_5 : decode cX12_isGood 5 = .ok (.ifCond .eq 15, 3) := by decide +kernel
theorem dX12_isGood_8 : decode cX12_isGood 8 = .ok (.aload_n 0, 1) := by decide +kernel
theorem dX12_isGood_9 : decode cX12_isGood 9 = .ok (.iload_n 2, 1) := by decide +kernel
theorem dX12_isGood_10 : decode cX12_isGood 10 = .ok (.invokevirtual 217, 3) := by decide +kernel
theorem dX12_isGood_13 : decode cX12_isGood 13 = .ok (.ifCond .eq 7, 3) := by decide +kernel
theorem dX12_isGood_16 : decode cX12_isGood 16 = .ok (.iconst 0, 1) := by decide +kernel
theorem dX12_isGood_17 : decode cX12_isGood 17 = .ok (.goto 4, 3) := by decide +kernel
theorem dX12_isGood_20 : decode cX12_isGood 20 = .ok (.iconst 1, 1) := by decide +kernel
theorem dX12_isGood_21 : decode cX12_isGood 21 = .ok (.invokevirtual 143, 3) := by decide +kernel
theorem dX12_isGood_24 : decode cX12_isGood 24 = .ok (.ifCond .eq 16, 3) := by decide +kernel
theorem dX12_isGood_27 : decode cX12_isGood 27 = .ok (.aload_n 0, 1) := by decide +kernel
theorem dX12_isGood_28 : decode cX12_isGood 28 = .ok (.iload_n 1, 1) := by decide +kernel
theorem dX12_isGood_29 : decode cX12_isGood 29 = .ok (.iload_n 2, 1) := by decide +kernel
theorem dX12_isGood_30 : decode cX12_isGood 30 = .ok (.invokevirtual 223, 3) := by decide +kernel
theorem dX12_isGood_33 : decode cX12_isGood 33 = .ok (.ifCond .eq 7, 3) := by decide +kernel
theorem dX12_isGood_36 : decode cX12_isGood 36 = .ok (.iconst 1, 1) := by decide +kernel
theorem dX12_isGood_37 : decode cX12_isGood 37 = .ok (.goto 4, 3) := by decide +kernel
theorem dX12_isGood_40 : decode cX12_isGood 40 = .ok (.iconst 0, 1) := by decide +kernel
theorem dX12_isGood_41 : decode cX12_isGood 41 = .ok (.ireturn, 1) := by decide +kernel
theorem dX12_done_0 : decode cX12_done 0 = .ok (.aload_n 0, 1) := by decide +kernel
theorem dX12_done_1 : decode cX12_done 1 = .ok (.iload_n 1, 1) := by decide +kernel
theorem dX12_done_2 : decode cX12_done 2 = .ok (.invokestatic 131, 3) := by decide +kernel
theorem dX12_done_5 : decode cX12_done 5 = .ok (.ifCond .eq 15, 3) := by decide +kernel
theorem dX12_done_8 : decode cX12_done 8 = .ok (.aload_n 0, 1) := by decide +kernel
theorem dX12_done_9 : decode cX12_done 9 = .ok (.iload_n 2, 1) := by decide +kernel
theorem dX12_done_10 : decode cX12_done 10 = .ok (.invokevirtual 217, 3) := by decide +kernel
theorem dX12_done_13 : decode cX12_done 13 = .ok (.ifCond .eq 7, 3) := by decide +kernel
theorem dX12_done_16 : decode cX12_done 16 = .ok (.iconst 0, 1) := by decide +kernel
theorem dX12_done_17 : decode cX12_done 17 = .ok (.goto 4, 3) := by decide +kernel
theorem dX12_done_20 : decode cX12_done 20 = .ok (.iconst 1, 1) := by decide +kernel
theorem dX12_done_21 : decode cX12_done 21 = .ok (.invokevirtual 143, 3) := by decide +kernel
theorem dX12_done_24 : decode cX12_done 24 = .ok (.ifCond .eq 12, 3) := by decide +kernel
theorem dX12_done_27 : decode cX12_done 27 = .ok (.aload_n 0, 1) := by decide +kernel

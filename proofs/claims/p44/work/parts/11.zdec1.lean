theorem dX11_act_100 : decode cX11_act 100 = .ok (.iload_n 1, 1) := by decide +kernel
theorem dX11_act_101 : decode cX11_act 101 = .ok (.aload_n 0, 1) := by decide +kernel
theorem dX11_act_102 : decode cX11_act 102 = .ok (.getfield 42, 3) := by decide +kernel
theorem dX11_act_105 : decode cX11_act 105 = .ok (.invokevirtual 171, 3) := by decide +kernel
theorem dX11_act_108 : decode cX11_act 108 = .ok (.pop, 1) := by decide +kernel
theorem dX11_act_109 : decode cX11_act 109 = .ok (.aload 7, 2) := by decide +kernel
theorem dX11_act_111 : decode cX11_act 111 = .ok (.aload_n 0, 1) := by decide +kernel
theorem dX11_act_112 : decode cX11_act 112 = .ok (.aload 7, 2) := by decide +kernel
theorem dX11_act_114 : decode cX11_act 114 = .ok (.invokevirtual 203, 3) := by decide +kernel
theorem dX11_act_117 : decode cX11_act 117 = .ok (.ifCond .ne 7, 3) := by decide +kernel
theorem dX11_act_120 : decode cX11_act 120 = .ok (.iconst 1, 1) := by decide +kernel
theorem dX11_act_121 : decode cX11_act 121 = .ok (.goto 4, 3) := by decide +kernel
theorem dX11_act_124 : decode cX11_act 124 = .ok (.iconst 0, 1) := by decide +kernel
theorem dX11_act_125 : decode cX11_act 125 = .ok (.putfield 207, 3) := by decide +kernel
theorem dX11_act_128 : decode cX11_act 128 = .ok (.aload_n 0, 1) := by decide +kernel
theorem dX11_act_129 : decode cX11_act 129 = .ok (.getfield 32, 3) := by decide +kernel
theorem dX11_act_132 : decode cX11_act 132 = .ok (.iload_n 1, 1) := by decide +kernel
theorem dX11_act_133 : decode cX11_act 133 = .ok (.aaload, 1) := by decide +kernel
theorem dX11_act_134 : decode cX11_act 134 = .ok (.aload 7, 2) := by decide +kernel
theorem dX11_act_136 : decode cX11_act 136 = .ok (.invokevirtual 211, 3) := by decide +kernel
theorem dX11_act_139 : decode cX11_act 139 = .ok (.ireturn, 1) := by decide +kernel
theorem dX11_tamper_0 : decode cX11_tamper 0 = .ok (.aload_n 0, 1) := by decide +kernel
theorem dX11_tamper_1 : decode cX11_tamper 1 = .ok (.iload_n 1, 1) := by decide +kernel
theorem dX11_tamper_2 : decode cX11_tamper 2 = .ok (.iload_n 2, 1) := by decide +kernel
theorem dX11_tamper_3 : decode cX11_tamper 3 = .ok (.invokevirtual 214, 3) := by decide +kernel
theorem dX11_tamper_6 : decode cX11_tamper 6 = .ok (.iload_n 3, 1) := by decide +kernel
theorem dX11_tamper_7 : decode cX11_tamper 7 = .ok (.iconst 1, 1) := by decide +kernel
theorem dX11_tamper_8 : decode cX11_tamper 8 = .ok (.sipush 10000, 3) := by decide +kernel
theorem dX11_tamper_11 : decode cX11_tamper 11 = .ok (.invokestatic 86, 3) := by decide +kernel
theorem dX11_tamper_14 : decode cX11_tamper 14 = .ok (.aload_n 0, 1) := by decide +kernel
theorem dX11_tamper_15 : decode cX11_tamper 15 = .ok (.getfield 32, 3) := by decide +kernel
theorem dX11_tamper_18 : decode cX11_tamper 18 = .ok (.iload_n 1, 1) := by decide +kernel
theorem dX11_tamper_19 : decode cX11_tamper 19 = .ok (.aaload, 1) := by decide +kernel
theorem dX11_tamper_20 : decode cX11_tamper 20 = .ok (.iload_n 2, 1) := by decide +kernel
theorem dX11_tamper_21 : decode cX11_tamper 21 = .ok (.invokevirtual 217, 3) := by decide +kernel
theorem dX11_tamper_24 : decode cX11_tamper 24 = .ok (.astore 4, 2) := by decide +kernel
theorem dX11_tamper_26 : decode cX11_tamper 26 = .ok (.aload 4, 2) := by decide +kernel
theorem dX11_tamper_28 : decode cX11_tamper 28 = .ok (.getfield 221, 3) := by decide +kernel
theorem dX11_tamper_31 : decode cX11_tamper 31 = .ok (.iconst 3, 1) := by decide +kernel
theorem dX11_tamper_32 : decode cX11_tamper 32 = .ok (.iaload, 1) := by decide +kernel
theorem dX11_tamper_33 : decode cX11_tamper 33 = .ok (.istore 5, 2) := by decide +kernel
theorem dX11_tamper_35 : decode cX11_tamper 35 = .ok (.aload 4, 2) := by decide +kernel
theorem dX11_tamper_37 : decode cX11_tamper 37 = .ok (.getfield 221, 3) := by decide +kernel
theorem dX11_tamper_40 : decode cX11_tamper 40 = .ok (.iconst 3, 1) := by decide +kernel
theorem dX11_tamper_41 : decode cX11_tamper 41 = .ok (.iload_n 3, 1) := by decide +kernel
theorem dX11_tamper_42 : decode cX11_tamper 42 = .ok (.iastore, 1) := by decide +kernel
theorem dX11_tamper_43 : decode cX11_tamper 43 = .ok (.iload 5, 2) := by decide +kernel
theorem dX11_tamper_45 : decode cX11_tamper 45 = .ok (.ireturn, 1) := by decide +kernel
theorem dX11_copy_0 : decode cX11_copy 0 = .ok (.aload_n 0, 1) := by decide +kernel
theorem dX11_copy_1 : decode cX11_copy 1 = .ok (.iload_n 1, 1) := by decide +kernel
theorem dX11_copy_2 : decode cX11_copy 2 = .ok (.iload_n 2, 1) := by decide +kernel
theorem dX11_copy_3 : decode cX11_copy 3 = .ok (.invokevirtual 214, 3) := by decide +kernel
theorem dX11_copy_6 : decode cX11_copy 6 = .ok (.aload_n 0, 1) := by decide +kernel
theorem dX11_copy_7 : decode cX11_copy 7 = .ok (.iload_n 1, 1) := by decide +kernel
theorem dX11_copy_8 : decode cX11_copy 8 = .ok (.iload_n 3, 1) := by decide +kernel
theorem dX11_copy_9 : decode cX11_copy 9 = .ok (.invokevirtual 214, 3) := by decide +kernel
theorem dX11_copy_12 : decode cX11_copy 12 = .ok (.iload 4, 2) := by decide +kernel
theorem dX11_copy_14 : decode cX11_copy 14 = .ok (.iconst 0, 1) := by decide +kernel
theorem dX11_copy_15 : decode cX11_copy 15 = .ok (.bipush 63, 2) := by decide +kernel
theorem dX11_copy_17 : decode cX11_copy 17 = .ok (.invokestatic 86, 3) := by decide +kernel
theorem dX11_copy_20 : decode cX11_copy 20 = .ok (.iload_n 3, 1) := by decide +kernel
theorem dX11_copy_21 : decode cX11_copy 21 = .ok (.iload_n 2, 1) := by decide +kernel
theorem dX11_copy_22 : decode cX11_copy 22 = .ok (.if_icmp .ge 13, 3) := by decide +kernel
theorem dX11_copy_25 : decode cX11_copy 25 = .ok (.new 134, 3) := by decide +kernel
theorem dX11_copy_28 : decode cX11_copy 28 = .ok (.dup, 1) := by decide +kernel
theorem dX11_copy_29 : decode cX11_copy 29 = .ok (.ldc 225, 2) := by decide +kernel
theorem dX11_copy_31 : decode cX11_copy 31 = .ok (.invokespecial 138, 3) := by decide +kernel
theorem dX11_copy_34 : decode cX11_copy 34 = .ok (.athrow, 1) := by decide +kernel
theorem dX11_copy_35 : decode cX11_copy 35 = .ok (.aload_n 0, 1) := by decide +kernel
theorem dX11_copy_36 : decode cX11_copy 36 = .ok (.getfield 39, 3) := by decide +kernel
theorem dX11_copy_39 : decode cX11_copy 39 = .ok (.invokevirtual 227, 3) := by decide +kernel
theorem dX11_copy_42 : decode cX11_copy 42 = .ok (.bipush 12, 2) := by decide +kernel
theorem dX11_copy_44 : decode cX11_copy 44 = .ok (.if_icmp .lt 13, 3) := by decide +kernel
theorem dX11_copy_47 : decode cX11_copy 47 = .ok (.new 70, 3) := by decide +kernel
theorem dX11_copy_50 : decode cX11_copy 50 = .ok (.dup, 1) := by decide +kernel
theorem dX11_copy_51 : decode cX11_copy 51 = .ok (.ldc 231, 2) := by decide +kernel
theorem dX11_copy_53 : decode cX11_copy 53 = .ok (.invokespecial 74, 3) := by decide +kernel
theorem dX11_copy_56 : decode cX11_copy 56 = .ok (.athrow, 1) := by decide +kernel
theorem dX11_copy_57 : decode cX11_copy 57 = .ok (.new 233, 3) := by decide +kernel
theorem dX11_copy_60 : decode cX11_copy 60 = .ok (.dup, 1) := by decide +kernel
theorem dX11_copy_61 : decode cX11_copy 61 = .ok (.iload_n 1, 1) := by decide +kernel
theorem dX11_copy_62 : decode cX11_copy 62 = .ok (.iload_n 2, 1) := by decide +kernel
theorem dX11_copy_63 : decode cX11_copy 63 = .ok (.iload_n 3, 1) := by decide +kernel
theorem dX11_copy_64 : decode cX11_copy 64 = .ok (.iload_n 2, 1) := by decide +kernel
theorem dX11_copy_65 : decode cX11_copy 65 = .ok (.isub, 1) := by decide +kernel
theorem dX11_copy_66 : decode cX11_copy 66 = .ok (.iconst 1, 1) := by decide +kernel
theorem dX11_copy_67 : decode cX11_copy 67 = .ok (.iadd, 1) := by decide +kernel
theorem dX11_copy_68 : decode cX11_copy 68 = .ok (.iload 4, 2) := by decide +kernel
theorem dX11_copy_70 : decode cX11_copy 70 = .ok (.invokespecial 235, 3) := by decide +kernel
theorem dX11_copy_73 : decode cX11_copy 73 = .ok (.astore 5, 2) := by decide +kernel
theorem dX11_copy_75 : decode cX11_copy 75 = .ok (.aload 5, 2) := by decide +kernel
theorem dX11_copy_77 : decode cX11_copy 77 = .ok (.aload_n 0, 1) := by decide +kernel
theorem dX11_copy_78 : decode cX11_copy 78 = .ok (.getfield 32, 3) := by decide +kernel
theorem dX11_copy_81 : decode cX11_copy 81 = .ok (.iload_n 1, 1) := by decide +kernel
theorem dX11_copy_82 : decode cX11_copy 82 = .ok (.aaload, 1) := by decide +kernel
theorem dX11_copy_83 : decode cX11_copy 83 = .ok (.invokevirtual 238, 3) := by decide +kernel
theorem dX11_copy_86 : decode cX11_copy 86 = .ok (.aload_n 0, 1) := by decide +kernel
theorem dX11_copy_87 : decode cX11_copy 87 = .ok (.getfield 39, 3) := by decide +kernel
theorem dX11_copy_90 : decode cX11_copy 90 = .ok (.aload 5, 2) := by decide +kernel
theorem dX11_copy_92 : decode cX11_copy 92 = .ok (.invokevirtual 242, 3) := by decide +kernel
theorem dX11_copy_95 : decode cX11_copy 95 = .ok (.pop, 1) := by decide +kernel
theorem dX11_copy_96 : decode cX11_copy 96 = .ok (.aload_n 0, 1) := by decide +kernel
theorem dX11_copy_97 : decode cX11_copy 97 = .ok (.getfield 39, 3) := by decide +kernel
theorem dX11_copy_100 : decode cX11_copy 100 = .ok (.invokevirtual 227, 3) := by decide +kernel
theorem dX11_copy_103 : decode cX11_copy 103 = .ok (.iconst 1, 1) := by decide +kernel
theorem dX11_copy_104 : decode cX11_copy 104 = .ok (.isub, 1) := by decide +kernel
theorem dX11_copy_105 : decode cX11_copy 105 = .ok (.ireturn, 1) := by decide +kernel
theorem dX11_forge_0 : decode cX11_forge 0 = .ok (.aload_n 0, 1) := by decide +kernel
theorem dX11_forge_1 : decode cX11_forge 1 = .ok (.iload_n 1, 1) := by decide +kernel
theorem dX11_forge_2 : decode cX11_forge 2 = .ok (.iload_n 2, 1) := by decide +kernel
theorem dX11_forge_3 : decode cX11_forge 3 = .ok (.invokevirtual 246, 3) := by decide +kernel
theorem dX11_forge_6 : decode cX11_forge 6 = .ok (.iload_n 3, 1) := by decide +kernel
theorem dX11_forge_7 : decode cX11_forge 7 = .ok (.invokestatic 249, 3) := by decide +kernel
theorem dX11_forge_10 : decode cX11_forge 10 = .ok (.iload 4, 2) := by decide +kernel
theorem dX11_forge_12 : decode cX11_forge 12 = .ok (.iconst 0, 1) := by decide +kernel
theorem dX11_forge_13 : decode cX11_forge 13 = .ok (.sipush 10000, 3) := by decide +kernel
theorem dX11_forge_16 : decode cX11_forge 16 = .ok (.invokestatic 86, 3) := by decide +kernel
theorem dX11_forge_19 : decode cX11_forge 19 = .ok (.aload_n 0, 1) := by decide +kernel
theorem dX11_forge_20 : decode cX11_forge 20 = .ok (.getfield 39, 3) := by decide +kernel
theorem dX11_forge_23 : decode cX11_forge 23 = .ok (.iload_n 1, 1) := by decide +kernel
theorem dX11_forge_24 : decode cX11_forge 24 = .ok (.invokevirtual 121, 3) := by decide +kernel
theorem dX11_forge_27 : decode cX11_forge 27 = .ok (.checkcast 233, 3) := by decide +kernel
theorem dX11_forge_30 : decode cX11_forge 30 = .ok (.astore 5, 2) := by decide +kernel
theorem dX11_forge_32 : decode cX11_forge 32 = .ok (.aload 5, 2) := by decide +kernel
theorem dX11_forge_34 : decode cX11_forge 34 = .ok (.iload_n 3, 1) := by decide +kernel
theorem dX11_forge_35 : decode cX11_forge 35 = .ok (.invokevirtual 252, 3) := by decide +kernel
theorem dX11_forge_38 : decode cX11_forge 38 = .ok (.ifCond .eq 13, 3) := by decide +kernel
theorem dX11_forge_41 : decode cX11_forge 41 = .ok (.new 70, 3) := by decide +kernel
theorem dX11_forge_44 : decode cX11_forge 44 = .ok (.dup, 1) := by decide +kernel
theorem dX11_forge_45 : decode cX11_forge 45 = .ok (.ldc 255, 2) := by decide +kernel
theorem dX11_forge_47 : decode cX11_forge 47 = .ok (.invokespecial 74, 3) := by decide +kernel
theorem dX11_forge_50 : decode cX11_forge 50 = .ok (.athrow, 1) := by decide +kernel
theorem dX11_forge_51 : decode cX11_forge 51 = .ok (.aload 5, 2) := by decide +kernel
theorem dX11_forge_53 : decode cX11_forge 53 = .ok (.getfield 257, 3) := by decide +kernel
theorem dX11_forge_56 : decode cX11_forge 56 = .ok (.iload_n 2, 1) := by decide +kernel
theorem dX11_forge_57 : decode cX11_forge 57 = .ok (.aaload, 1) := by decide +kernel
theorem dX11_forge_58 : decode cX11_forge 58 = .ok (.iload_n 3, 1) := by decide +kernel
theorem dX11_forge_59 : decode cX11_forge 59 = .ok (.iaload, 1) := by decide +kernel
theorem dX11_forge_60 : decode cX11_forge 60 = .ok (.istore 6, 2) := by decide +kernel
theorem dX11_forge_62 : decode cX11_forge 62 = .ok (.aload 5, 2) := by decide +kernel
theorem dX11_forge_64 : decode cX11_forge 64 = .ok (.getfield 257, 3) := by decide +kernel
theorem dX11_forge_67 : decode cX11_forge 67 = .ok (.iload_n 2, 1) := by decide +kernel
theorem dX11_forge_68 : decode cX11_forge 68 = .ok (.aaload, 1) := by decide +kernel
theorem dX11_forge_69 : decode cX11_forge 69 = .ok (.iload_n 3, 1) := by decide +kernel
theorem dX11_forge_70 : decode cX11_forge 70 = .ok (.iload 4, 2) := by decide +kernel
theorem dX11_forge_72 : decode cX11_forge 72 = .ok (.iastore, 1) := by decide +kernel
theorem dX11_forge_73 : decode cX11_forge 73 = .ok (.iload 6, 2) := by decide +kernel
theorem dX11_forge_75 : decode cX11_forge 75 = .ok (.ireturn, 1) := by decide +kernel
theorem dX11_hour_0 : decode cX11_hour 0 = .ok (.aload_n 0, 1) := by decide +kernel
theorem dX11_hour_1 : decode cX11_hour 1 = .ok (.getfield 42, 3) := by decide +kernel
theorem dX11_hour_4 : decode cX11_hour 4 = .ok (.ireturn, 1) := by decide +kernel
theorem dX11_news_0 : decode cX11_news 0 = .ok (.aload_n 0, 1) := by decide +kernel
theorem dX11_news_1 : decode cX11_news 1 = .ok (.getfield 19, 3) := by decide +kernel
theorem dX11_news_4 : decode cX11_news 4 = .ok (.invokevirtual 260, 3) := by decide +kernel
theorem dX11_news_7 : decode cX11_news 7 = .ok (.ireturn, 1) := by decide +kernel
theorem dX11_powers_0 : decode cX11_powers 0 = .ok (.aload_n 0, 1) := by decide +kernel
theorem dX11_powers_1 : decode cX11_powers 1 = .ok (.getfield 26, 3) := by decide +kernel
theorem dX11_powers_4 : decode cX11_powers 4 = .ok (.invokevirtual 227, 3) := by decide +kernel
theorem dX11_powers_7 : decode cX11_powers 7 = .ok (.ireturn, 1) := by decide +kernel
theorem dX11_records_0 : decode cX11_records 0 = .ok (.iload_n 1, 1) := by decide +kernel
theorem dX11_records_1 : decode cX11_records 1 = .ok (.invokestatic 99, 3) := by decide +kernel
theorem dX11_records_4 : decode cX11_records 4 = .ok (.aload_n 0, 1) := by decide +kernel
theorem dX11_records_5 : decode cX11_records 5 = .ok (.getfield 32, 3) := by decide +kernel
theorem dX11_records_8 : decode cX11_records 8 = .ok (.iload_n 1, 1) := by decide +kernel
theorem dX11_records_9 : decode cX11_records 9 = .ok (.aaload, 1) := by decide +kernel
theorem dX11_records_10 : decode cX11_records 10 = .ok (.invokevirtual 263, 3) := by decide +kernel
theorem dX11_records_13 : decode cX11_records 13 = .ok (.ireturn, 1) := by decide +kernel
theorem dX11_areJoined_0 : decode cX11_areJoined 0 = .ok (.iload_n 1, 1) := by decide +kernel
theorem dX11_areJoined_1 : decode cX11_areJoined 1 = .ok (.invokestatic 99, 3) := by decide +kernel
theorem dX11_areJoined_4 : decode cX11_areJoined 4 = .ok (.iload_n 2, 1) := by decide +kernel
theorem dX11_areJoined_5 : decode cX11_areJoined 5 = .ok (.invokestatic 99, 3) := by decide +kernel
theorem dX11_areJoined_8 : decode cX11_areJoined 8 = .ok (.aload_n 0, 1) := by decide +kernel
theorem dX11_areJoined_9 : decode cX11_areJoined 9 = .ok (.getfield 10, 3) := by decide +kernel
theorem dX11_areJoined_12 : decode cX11_areJoined 12 = .ok (.iload_n 1, 1) := by decide +kernel
theorem dX11_areJoined_13 : decode cX11_areJoined 13 = .ok (.iload_n 2, 1) := by decide +kernel
theorem dX11_areJoined_14 : decode cX11_areJoined 14 = .ok (.invokevirtual 66, 3) := by decide +kernel
theorem dX11_areJoined_17 : decode cX11_areJoined 17 = .ok (.ireturn, 1) := by decide +kernel
theorem dX11_came_0 : decode cX11_came 0 = .ok (.iload_n 1, 1) := by decide +kernel
theorem dX11_came_1 : decode cX11_came 1 = .ok (.invokestatic 99, 3) := by decide +kernel
theorem dX11_came_4 : decode cX11_came 4 = .ok (.aload_n 0, 1) := by decide +kernel
theorem dX11_came_5 : decode cX11_came 5 = .ok (.iload_n 2, 1) := by decide +kernel
theorem dX11_came_6 : decode cX11_came 6 = .ok (.invokevirtual 264, 3) := by decide +kernel
theorem dX11_came_9 : decode cX11_came 9 = .ok (.aload_n 0, 1) := by decide +kernel
theorem dX11_came_10 : decode cX11_came 10 = .ok (.getfield 19, 3) := by decide +kernel
theorem dX11_came_13 : decode cX11_came 13 = .ok (.iload_n 2, 1) := by decide +kernel
theorem dX11_came_14 : decode cX11_came 14 = .ok (.invokevirtual 267, 3) := by decide +kernel
theorem dX11_came_17 : decode cX11_came 17 = .ok (.getfield 271, 3) := by decide +kernel
theorem dX11_came_20 : decode cX11_came 20 = .ok (.iload_n 1, 1) := by decide +kernel
theorem dX11_came_21 : decode cX11_came 21 = .ok (.iaload, 1) := by decide +kernel
theorem dX11_came_22 : decode cX11_came 22 = .ok (.ireturn, 1) := by decide +kernel
theorem dX11_cameByLinks_0 : decode cX11_cameByLinks 0 = .ok (.iload_n 1, 1) := by decide +kernel
theorem dX11_cameByLinks_1 : decode cX11_cameByLinks 1 = .ok (.invokestatic 99, 3) := by decide +kernel
theorem dX11_cameByLinks_4 : decode cX11_cameByLinks 4 = .ok (.aload_n 0, 1) := by decide +kernel
theorem dX11_cameByLinks_5 : decode cX11_cameByLinks 5 = .ok (.iload_n 2, 1) := by decide +kernel
theorem dX11_cameByLinks_6 : decode cX11_cameByLinks 6 = .ok (.invokevirtual 264, 3) := by decide +kernel
theorem dX11_cameByLinks_9 : decode cX11_cameByLinks 9 = .ok (.aload_n 0, 1) := by decide +kernel
theorem dX11_cameByLinks_10 : decode cX11_cameByLinks 10 = .ok (.getfield 19, 3) := by decide +kernel
theorem dX11_cameByLinks_13 : decode cX11_cameByLinks 13 = .ok (.iload_n 2, 1) := by decide +kernel
theorem dX11_cameByLinks_14 : decode cX11_cameByLinks 14 = .ok (.invokevirtual 267, 3) := by decide +kernel
theorem dX11_cameByLinks_17 : decode cX11_cameByLinks 17 = .ok (.astore_n 3, 1) := by decide +kernel
theorem dX11_cameByLinks_18 : decode cX11_cameByLinks 18 = .ok (.aload_n 3, 1) := by decide +kernel
theorem dX11_cameByLinks_19 : decode cX11_cameByLinks 19 = .ok (.getfield 276, 3) := by decide +kernel
theorem dX11_cameByLinks_22 : decode cX11_cameByLinks 22 = .ok (.invokestatic 279, 3) := by decide +kernel
theorem dX11_cameByLinks_25 : decode cX11_cameByLinks 25 = .ok (.istore 4, 2) := by decide +kernel
theorem dX11_cameByLinks_27 : decode cX11_cameByLinks 27 = .ok (.iload 4, 2) := by decide +kernel
theorem dX11_cameByLinks_29 : decode cX11_cameByLinks 29 = .ok (.iload_n 1, 1) := by decide +kernel
theorem dX11_cameByLinks_30 : decode cX11_cameByLinks 30 = .ok (.invokestatic 282, 3) := by decide +kernel
theorem dX11_cameByLinks_33 : decode cX11_cameByLinks 33 = .ok (.ifCond .eq 8, 3) := by decide +kernel
theorem dX11_cameByLinks_36 : decode cX11_cameByLinks 36 = .ok (.aload_n 3, 1) := by decide +kernel
theorem dX11_cameByLinks_37 : decode cX11_cameByLinks 37 = .ok (.getfield 285, 3) := by decide +kernel
theorem dX11_cameByLinks_40 : decode cX11_cameByLinks 40 = .ok (.ireturn, 1) := by decide +kernel
theorem dX11_cameByLinks_41 : decode cX11_cameByLinks 41 = .ok (.aload_n 3, 1) := by decide +kernel
theorem dX11_cameByLinks_42 : decode cX11_cameByLinks 42 = .ok (.getfield 285, 3) := by decide +kernel
theorem dX11_cameByLinks_45 : decode cX11_cameByLinks 45 = .ok (.iconst 1, 1) := by decide +kernel
theorem dX11_cameByLinks_46 : decode cX11_cameByLinks 46 = .ok (.iadd, 1) := by decide +kernel
theorem dX11_cameByLinks_47 : decode cX11_cameByLinks 47 = .ok (.istore 5, 2) := by decide +kernel
theorem dX11_cameByLinks_49 : decode cX11_cameByLinks 49 = .ok (.iload 5, 2) := by decide +kernel
theorem dX11_cameByLinks_51 : decode cX11_cameByLinks 51 = .ok (.aload_n 0, 1) := by decide +kernel
theorem dX11_cameByLinks_52 : decode cX11_cameByLinks 52 = .ok (.getfield 42, 3) := by decide +kernel
theorem dX11_cameByLinks_55 : decode cX11_cameByLinks 55 = .ok (.if_icmp .gt 34, 3) := by decide +kernel
theorem dX11_cameByLinks_58 : decode cX11_cameByLinks 58 = .ok (.aload_n 0, 1) := by decide +kernel
theorem dX11_cameByLinks_59 : decode cX11_cameByLinks 59 = .ok (.getfield 10, 3) := by decide +kernel
theorem dX11_cameByLinks_62 : decode cX11_cameByLinks 62 = .ok (.iload 4, 2) := by decide +kernel
theorem dX11_cameByLinks_64 : decode cX11_cameByLinks 64 = .ok (.iload 5, 2) := by decide +kernel
theorem dX11_cameByLinks_66 : decode cX11_cameByLinks 66 = .ok (.invokevirtual 286, 3) := by decide +kernel
theorem dX11_cameByLinks_69 : decode cX11_cameByLinks 69 = .ok (.istore 4, 2) := by decide +kernel
theorem dX11_cameByLinks_71 : decode cX11_cameByLinks 71 = .ok (.iload 4, 2) := by decide +kernel
theorem dX11_cameByLinks_73 : decode cX11_cameByLinks 73 = .ok (.iload_n 1, 1) := by decide +kernel
theorem dX11_cameByLinks_74 : decode cX11_cameByLinks 74 = .ok (.invokestatic 282, 3) := by decide +kernel
theorem dX11_cameByLinks_77 : decode cX11_cameByLinks 77 = .ok (.ifCond .eq 6, 3) := by decide +kernel
theorem dX11_cameByLinks_80 : decode cX11_cameByLinks 80 = .ok (.iload 5, 2) := by decide +kernel
theorem dX11_cameByLinks_82 : decode cX11_cameByLinks 82 = .ok (.ireturn, 1) := by decide +kernel
theorem dX11_cameByLinks_83 : decode cX11_cameByLinks 83 = .ok (.iinc 5 1, 3) := by decide +kernel
theorem dX11_cameByLinks_86 : decode cX11_cameByLinks 86 = .ok (.goto (-37), 3) := by decide +kernel
theorem dX11_cameByLinks_89 : decode cX11_cameByLinks 89 = .ok (.iconst (-1), 1) := by decide +kernel
theorem dX11_cameByLinks_90 : decode cX11_cameByLinks 90 = .ok (.ireturn, 1) := by decide +kernel
theorem dX11_isRead_0 : decode cX11_isRead 0 = .ok (.iload_n 1, 1) := by decide +kernel
theorem dX11_isRead_1 : decode cX11_isRead 1 = .ok (.invokestatic 99, 3) := by decide +kernel
theorem dX11_isRead_4 : decode cX11_isRead 4 = .ok (.aload_n 0, 1) := by decide +kernel
theorem dX11_isRead_5 : decode cX11_isRead 5 = .ok (.iload_n 2, 1) := by decide +kernel
theorem dX11_isRead_6 : decode cX11_isRead 6 = .ok (.invokevirtual 264, 3) := by decide +kernel
theorem dX11_isRead_9 : decode cX11_isRead 9 = .ok (.aload_n 0, 1) := by decide +kernel
theorem dX11_isRead_10 : decode cX11_isRead 10 = .ok (.getfield 19, 3) := by decide +kernel
theorem dX11_isRead_13 : decode cX11_isRead 13 = .ok (.iload_n 2, 1) := by decide +kernel
theorem dX11_isRead_14 : decode cX11_isRead 14 = .ok (.invokevirtual 267, 3) := by decide +kernel
theorem dX11_isRead_17 : decode cX11_isRead 17 = .ok (.getfield 290, 3) := by decide +kernel
theorem dX11_isRead_20 : decode cX11_isRead 20 = .ok (.iload_n 1, 1) := by decide +kernel
theorem dX11_isRead_21 : decode cX11_isRead 21 = .ok (.invokestatic 282, 3) := by decide +kernel
theorem dX11_isRead_24 : decode cX11_isRead 24 = .ok (.ireturn, 1) := by decide +kernel
theorem dX11_mail_0 : decode cX11_mail 0 = .ok (.iload_n 1, 1) := by decide +kernel
theorem dX11_mail_1 : decode cX11_mail 1 = .ok (.invokestatic 99, 3) := by decide +kernel
theorem dX11_mail_4 : decode cX11_mail 4 = .ok (.aload_n 0, 1) := by decide +kernel
theorem dX11_mail_5 : decode cX11_mail 5 = .ok (.getfield 19, 3) := by decide +kernel
theorem dX11_mail_8 : decode cX11_mail 8 = .ok (.iload_n 1, 1) := by decide +kernel
theorem dX11_mail_9 : decode cX11_mail 9 = .ok (.invokevirtual 293, 3) := by decide +kernel
theorem dX11_mail_12 : decode cX11_mail 12 = .ok (.ireturn, 1) := by decide +kernel
theorem dX11_source_0 : decode cX11_source 0 = .ok (.aload_n 0, 1) := by decide +kernel
theorem dX11_source_1 : decode cX11_source 1 = .ok (.iload_n 1, 1) := by decide +kernel
theorem dX11_source_2 : decode cX11_source 2 = .ok (.invokevirtual 118, 3) := by decide +kernel
theorem dX11_source_5 : decode cX11_source 5 = .ok (.aload_n 0, 1) := by decide +kernel
theorem dX11_source_6 : decode cX11_source 6 = .ok (.getfield 26, 3) := by decide +kernel
theorem dX11_source_9 : decode cX11_source 9 = .ok (.iload_n 1, 1) := by decide +kernel
theorem dX11_source_10 : decode cX11_source 10 = .ok (.invokevirtual 121, 3) := by decide +kernel
theorem dX11_source_13 : decode cX11_source 13 = .ok (.checkcast 125, 3) := by decide +kernel
theorem dX11_source_16 : decode cX11_source 16 = .ok (.getfield 296, 3) := by decide +kernel
theorem dX11_source_19 : decode cX11_source 19 = .ok (.astore_n 2, 1) := by decide +kernel
theorem dX11_source_20 : decode cX11_source 20 = .ok (.aload_n 2, 1) := by decide +kernel
theorem dX11_source_21 : decode cX11_source 21 = .ok (.ifnonnull 7, 3) := by decide +kernel
theorem dX11_source_24 : decode cX11_source 24 = .ok (.iconst (-1), 1) := by decide +kernel
theorem dX11_source_25 : decode cX11_source 25 = .ok (.goto 7, 3) := by decide +kernel
theorem dX11_source_28 : decode cX11_source 28 = .ok (.aload_n 2, 1) := by decide +kernel
theorem dX11_source_29 : decode cX11_source 29 = .ok (.getfield 300, 3) := by decide +kernel
theorem dX11_source_32 : decode cX11_source 32 = .ok (.ireturn, 1) := by decide +kernel
theorem dX11_holder_0 : decode cX11_holder 0 = .ok (.aload_n 0, 1) := by decide +kernel
theorem dX11_holder_1 : decode cX11_holder 1 = .ok (.iload_n 1, 1) := by decide +kernel
theorem dX11_holder_2 : decode cX11_holder 2 = .ok (.invokevirtual 118, 3) := by decide +kernel
theorem dX11_holder_5 : decode cX11_holder 5 = .ok (.aload_n 0, 1) := by decide +kernel
theorem dX11_holder_6 : decode cX11_holder 6 = .ok (.getfield 26, 3) := by decide +kernel
theorem dX11_holder_9 : decode cX11_holder 9 = .ok (.iload_n 1, 1) := by decide +kernel
theorem dX11_holder_10 : decode cX11_holder 10 = .ok (.invokevirtual 121, 3) := by decide +kernel
theorem dX11_holder_13 : decode cX11_holder 13 = .ok (.checkcast 125, 3) := by decide +kernel
theorem dX11_holder_16 : decode cX11_holder 16 = .ok (.getfield 127, 3) := by decide +kernel
theorem dX11_holder_19 : decode cX11_holder 19 = .ok (.ireturn, 1) := by decide +kernel
theorem dX11_isGood_0 : decode cX11_isGood 0 = .ok (.iload_n 1, 1) := by decide +kernel
theorem dX11_isGood_1 : decode cX11_isGood 1 = .ok (.invokestatic 99, 3) := by decide +kernel
theorem dX11_isGood_4 : decode cX11_isGood 4 = .ok (.aload_n 0, 1) := by decide +kernel
theorem dX11_isGood_5 : decode cX11_isGood 5 = .ok (.iload_n 2, 1) := by decide +kernel
theorem dX11_isGood_6 : decode cX11_isGood 6 = .ok (.invokevirtual 118, 3) := by decide +kernel
theorem dX11_isGood_9 : decode cX11_isGood 9 = .ok (.aload_n 0, 1) := by decide +kernel
theorem dX11_isGood_10 : decode cX11_isGood 10 = .ok (.iload_n 1, 1) := by decide +kernel
theorem dX11_isGood_11 : decode cX11_isGood 11 = .ok (.aload_n 0, 1) := by decide +kernel
theorem dX11_isGood_12 : decode cX11_isGood 12 = .ok (.getfield 26, 3) := by decide +kernel
theorem dX11_isGood_15 : decode cX11_isGood 15 = .ok (.iload_n 2, 1) := by decide +kernel
theorem dX11_isGood_16 : decode cX11_isGood 16 = .ok (.invokevirtual 121, 3) := by decide +kernel
theorem dX11_isGood_19 : decode cX11_isGood 19 = .ok (.checkcast 125, 3) := by decide +kernel
theorem dX11_isGood_22 : decode cX11_isGood 22 = .ok (.invokevirtual 139, 3) := by decide +kernel
theorem dX11_isGood_25 : decode cX11_isGood 25 = .ok (.ireturn, 1) := by decide +kernel
theorem dX11_done_0 : decode cX11_done 0 = .ok (.iload_n 1, 1) := by decide +kernel
theorem dX11_done_1 : decode cX11_done 1 = .ok (.invokestatic 99, 3) := by decide +kernel
theorem dX11_done_4 : decode cX11_done 4 = .ok (.aload_n 0, 1) := by decide +kernel
theorem dX11_done_5 : decode cX11_done 5 = .ok (.iload_n 2, 1) := by decide +kernel
theorem dX11_done_6 : decode cX11_done 6 = .ok (.invokevirtual 118, 3) := by decide +kernel
theorem dX11_done_9 : decode cX11_done 9 = .ok (.aload_n 0, 1) := by decide +kernel
theorem dX11_done_10 : decode cX11_done 10 = .ok (.getfield 19, 3) := by decide +kernel
theorem dX11_done_13 : decode cX11_done 13 = .ok (.iload_n 1, 1) := by decide +kernel
theorem dX11_done_14 : decode cX11_done 14 = .ok (.invokevirtual 154, 3) := by decide +kernel
theorem dX11_done_17 : decode cX11_done 17 = .ok (.aload_n 0, 1) := by decide +kernel
theorem dX11_done_18 : decode cX11_done 18 = .ok (.getfield 19, 3) := by decide +kernel
theorem dX11_done_21 : decode cX11_done 21 = .ok (.aload_n 0, 1) := by decide +kernel
theorem dX11_done_22 : decode cX11_done 22 = .ok (.getfield 26, 3) := by decide +kernel
theorem dX11_done_25 : decode cX11_done 25 = .ok (.iload_n 2, 1) := by decide +kernel
theorem dX11_done_26 : decode cX11_done 26 = .ok (.invokevirtual 121, 3) := by decide +kernel
theorem dX11_done_29 : decode cX11_done 29 = .ok (.checkcast 125, 3) := by decide +kernel
theorem dX11_done_32 : decode cX11_done 32 = .ok (.invokevirtual 303, 3) := by decide +kernel
theorem dX11_done_35 : decode cX11_done 35 = .ok (.ireturn, 1) := by decide +kernel
theorem dX11_against_0 : decode cX11_against 0 = .ok (.iload_n 1, 1) := by decide +kernel
theorem dX11_against_1 : decode cX11_against 1 = .ok (.invokestatic 99, 3) := by decide +kernel
theorem dX11_against_4 : decode cX11_against 4 = .ok (.iload_n 2, 1) := by decide +kernel
theorem dX11_against_5 : decode cX11_against 5 = .ok (.invokestatic 105, 3) := by decide +kernel
theorem dX11_against_8 : decode cX11_against 8 = .ok (.aload_n 0, 1) := by decide +kernel
theorem dX11_against_9 : decode cX11_against 9 = .ok (.iload_n 3, 1) := by decide +kernel
theorem dX11_against_10 : decode cX11_against 10 = .ok (.invokevirtual 118, 3) := by decide +kernel
theorem dX11_against_13 : decode cX11_against 13 = .ok (.iload 4, 2) := by decide +kernel
theorem dX11_against_15 : decode cX11_against 15 = .ok (.iconst 1, 1) := by decide +kernel
theorem dX11_against_16 : decode cX11_against 16 = .ok (.sipush 10000, 3) := by decide +kernel
theorem dX11_against_19 : decode cX11_against 19 = .ok (.invokestatic 86, 3) := by decide +kernel
theorem dX11_against_22 : decode cX11_against 22 = .ok (.aload_n 0, 1) := by decide +kernel
theorem dX11_against_23 : decode cX11_against 23 = .ok (.getfield 19, 3) := by decide +kernel
theorem dX11_against_26 : decode cX11_against 26 = .ok (.iload_n 1, 1) := by decide +kernel
theorem dX11_against_27 : decode cX11_against 27 = .ok (.invokevirtual 154, 3) := by decide +kernel
theorem dX11_against_30 : decode cX11_against 30 = .ok (.aload_n 0, 1) := by decide +kernel
theorem dX11_against_31 : decode cX11_against 31 = .ok (.getfield 19, 3) := by decide +kernel
theorem dX11_against_34 : decode cX11_against 34 = .ok (.aload_n 0, 1) := by decide +kernel
theorem dX11_against_35 : decode cX11_against 35 = .ok (.getfield 26, 3) := by decide +kernel
theorem dX11_against_38 : decode cX11_against 38 = .ok (.iload_n 3, 1) := by decide +kernel
theorem dX11_against_39 : decode cX11_against 39 = .ok (.invokevirtual 121, 3) := by decide +kernel
theorem dX11_against_42 : decode cX11_against 42 = .ok (.checkcast 125, 3) := by decide +kernel
theorem dX11_against_45 : decode cX11_against 45 = .ok (.aload_n 0, 1) := by decide +kernel
theorem dX11_against_46 : decode cX11_against 46 = .ok (.iload_n 1, 1) := by decide +kernel
theorem dX11_against_47 : decode cX11_against 47 = .ok (.iload_n 2, 1) := by decide +kernel
theorem dX11_against_48 : decode cX11_against 48 = .ok (.iload 4, 2) := by decide +kernel
theorem dX11_against_50 : decode cX11_against 50 = .ok (.invokevirtual 188, 3) := by decide +kernel
theorem dX11_against_53 : decode cX11_against 53 = .ok (.invokevirtual 192, 3) := by decide +kernel
theorem dX11_against_56 : decode cX11_against 56 = .ok (.ireturn, 1) := by decide +kernel
theorem dX11_choices_0 : decode cX11_choices 0 = .ok (.iload_n 1, 1) := by decide +kernel
theorem dX11_choices_1 : decode cX11_choices 1 = .ok (.invokestatic 99, 3) := by decide +kernel
theorem dX11_choices_4 : decode cX11_choices 4 = .ok (.iload_n 2, 1) := by decide +kernel
theorem dX11_choices_5 : decode cX11_choices 5 = .ok (.invokestatic 105, 3) := by decide +kernel
theorem dX11_choices_8 : decode cX11_choices 8 = .ok (.iload_n 3, 1) := by decide +kernel
theorem dX11_choices_9 : decode cX11_choices 9 = .ok (.iconst 1, 1) := by decide +kernel
theorem dX11_choices_10 : decode cX11_choices 10 = .ok (.sipush 10000, 3) := by decide +kernel
theorem dX11_choices_13 : decode cX11_choices 13 = .ok (.invokestatic 86, 3) := by decide +kernel
theorem dX11_choices_16 : decode cX11_choices 16 = .ok (.aload_n 0, 1) := by decide +kernel
theorem dX11_choices_17 : decode cX11_choices 17 = .ok (.iload_n 1, 1) := by decide +kernel
theorem dX11_choices_18 : decode cX11_choices 18 = .ok (.iload_n 2, 1) := by decide +kernel
theorem dX11_choices_19 : decode cX11_choices 19 = .ok (.iload_n 3, 1) := by decide +kernel
theorem dX11_choices_20 : decode cX11_choices 20 = .ok (.invokevirtual 188, 3) := by decide +kernel
theorem dX11_choices_23 : decode cX11_choices 23 = .ok (.astore 4, 2) := by decide +kernel
theorem dX11_choices_25 : decode cX11_choices 25 = .ok (.aload_n 0, 1) := by decide +kernel
theorem dX11_choices_26 : decode cX11_choices 26 = .ok (.getfield 19, 3) := by decide +kernel
theorem dX11_choices_29 : decode cX11_choices 29 = .ok (.iload_n 1, 1) := by decide +kernel
theorem dX11_choices_30 : decode cX11_choices 30 = .ok (.invokevirtual 154, 3) := by decide +kernel
theorem dX11_choices_33 : decode cX11_choices 33 = .ok (.iconst 0, 1) := by decide +kernel
theorem dX11_choices_34 : decode cX11_choices 34 = .ok (.istore 5, 2) := by decide +kernel
theorem dX11_choices_36 : decode cX11_choices 36 = .ok (.iconst 0, 1) := by decide +kernel
theorem dX11_choices_37 : decode cX11_choices 37 = .ok (.istore 6, 2) := by decide +kernel
theorem dX11_choices_39 : decode cX11_choices 39 = .ok (.iload 6, 2) := by decide +kernel
theorem dX11_choices_41 : decode cX11_choices 41 = .ok (.aload_n 0, 1) := by decide +kernel
theorem dX11_choices_42 : decode cX11_choices 42 = .ok (.getfield 26, 3) := by decide +kernel
theorem dX11_choices_45 : decode cX11_choices 45 = .ok (.invokevirtual 227, 3) := by decide +kernel
theorem dX11_choices_48 : decode cX11_choices 48 = .ok (.if_icmp .ge 36, 3) := by decide +kernel
theorem dX11_choices_51 : decode cX11_choices 51 = .ok (.aload_n 0, 1) := by decide +kernel
theorem dX11_choices_52 : decode cX11_choices 52 = .ok (.getfield 19, 3) := by decide +kernel
theorem dX11_choices_55 : decode cX11_choices 55 = .ok (.aload_n 0, 1) := by decide +kernel
theorem dX11_choices_56 : decode cX11_choices 56 = .ok (.getfield 26, 3) := by decide +kernel
theorem dX11_choices_59 : decode cX11_choices 59 = .ok (.iload 6, 2) := by decide +kernel
theorem dX11_choices_61 : decode cX11_choices 61 = .ok (.invokevirtual 121, 3) := by decide +kernel
theorem dX11_choices_64 : decode cX11_choices 64 = .ok (.checkcast 125, 3) := by decide +kernel
theorem dX11_choices_67 : decode cX11_choices 67 = .ok (.aload 4, 2) := by decide +kernel
theorem dX11_choices_69 : decode cX11_choices 69 = .ok (.invokevirtual 192, 3) := by decide +kernel
theorem dX11_choices_72 : decode cX11_choices 72 = .ok (.ifCond .ne 6, 3) := by decide +kernel
theorem dX11_choices_75 : decode cX11_choices 75 = .ok (.iinc 5 1, 3) := by decide +kernel
theorem dX11_choices_78 : decode cX11_choices 78 = .ok (.iinc 6 1, 3) := by decide +kernel
theorem dX11_choices_81 : decode cX11_choices 81 = .ok (.goto (-42), 3) := by decide +kernel
theorem dX11_choices_84 : decode cX11_choices 84 = .ok (.iload 5, 2) := by decide +kernel
theorem dX11_choices_86 : decode cX11_choices 86 = .ok (.ireturn, 1) := by decide +kernel
theorem dX11_stands_0 : decode cX11_stands 0 = .ok (.aload_n 0, 1) := by decide +kernel
theorem dX11_stands_1 : decode cX11_stands 1 = .ok (.iload_n 1, 1) := by decide +kernel
theorem dX11_stands_2 : decode cX11_stands 2 = .ok (.iload_n 2, 1) := by decide +kernel
theorem dX11_stands_3 : decode cX11_stands 3 = .ok (.invokevirtual 214, 3) := by decide +kernel
theorem dX11_stands_6 : decode cX11_stands 6 = .ok (.aload_n 0, 1) := by decide +kernel
theorem dX11_stands_7 : decode cX11_stands 7 = .ok (.getfield 32, 3) := by decide +kernel
theorem dX11_stands_10 : decode cX11_stands 10 = .ok (.iload_n 1, 1) := by decide +kernel
theorem dX11_stands_11 : decode cX11_stands 11 = .ok (.aaload, 1) := by decide +kernel
theorem dX11_stands_12 : decode cX11_stands 12 = .ok (.iload_n 2, 1) := by decide +kernel
theorem dX11_stands_13 : decode cX11_stands 13 = .ok (.invokevirtual 217, 3) := by decide +kernel
theorem dX11_stands_16 : decode cX11_stands 16 = .ok (.getfield 207, 3) := by decide +kernel
theorem dX11_stands_19 : decode cX11_stands 19 = .ok (.ireturn, 1) := by decide +kernel
theorem dX11_fault_0 : decode cX11_fault 0 = .ok (.aload_n 0, 1) := by decide +kernel
theorem dX11_fault_1 : decode cX11_fault 1 = .ok (.iload_n 1, 1) := by decide +kernel
theorem dX11_fault_2 : decode cX11_fault 2 = .ok (.iload_n 2, 1) := by decide +kernel
theorem dX11_fault_3 : decode cX11_fault 3 = .ok (.invokevirtual 214, 3) := by decide +kernel
theorem dX11_fault_6 : decode cX11_fault 6 = .ok (.aload_n 0, 1) := by decide +kernel
theorem dX11_fault_7 : decode cX11_fault 7 = .ok (.aload_n 0, 1) := by decide +kernel
theorem dX11_fault_8 : decode cX11_fault 8 = .ok (.getfield 32, 3) := by decide +kernel
theorem dX11_fault_11 : decode cX11_fault 11 = .ok (.iload_n 1, 1) := by decide +kernel
theorem dX11_fault_12 : decode cX11_fault 12 = .ok (.aaload, 1) := by decide +kernel
theorem dX11_fault_13 : decode cX11_fault 13 = .ok (.iload_n 2, 1) := by decide +kernel
theorem dX11_fault_14 : decode cX11_fault 14 = .ok (.invokevirtual 217, 3) := by decide +kernel
theorem dX11_fault_17 : decode cX11_fault 17 = .ok (.invokevirtual 203, 3) := by decide +kernel
theorem dX11_fault_20 : decode cX11_fault 20 = .ok (.ireturn, 1) := by decide +kernel
theorem dX11_standing_0 : decode cX11_standing 0 = .ok (.iconst 0, 1) := by decide +kernel
theorem dX11_standing_1 : decode cX11_standing 1 = .ok (.istore_n 1, 1) := by decide +kernel
theorem dX11_standing_2 : decode cX11_standing 2 = .ok (.iconst 0, 1) := by decide +kernel
theorem dX11_standing_3 : decode cX11_standing 3 = .ok (.istore_n 2, 1) := by decide +kernel
theorem dX11_standing_4 : decode cX11_standing 4 = .ok (.iload_n 2, 1) := by decide +kernel
theorem dX11_standing_5 : decode cX11_standing 5 = .ok (.bipush 6, 2) := by decide +kernel
theorem dX11_standing_7 : decode cX11_standing 7 = .ok (.if_icmp .ge 21, 3) := by decide +kernel
theorem dX11_standing_10 : decode cX11_standing 10 = .ok (.iload_n 1, 1) := by decide +kernel
theorem dX11_standing_11 : decode cX11_standing 11 = .ok (.aload_n 0, 1) := by decide +kernel
theorem dX11_standing_12 : decode cX11_standing 12 = .ok (.getfield 32, 3) := by decide +kernel
theorem dX11_standing_15 : decode cX11_standing 15 = .ok (.iload_n 2, 1) := by decide +kernel
theorem dX11_standing_16 : decode cX11_standing 16 = .ok (.aaload, 1) := by decide +kernel
theorem dX11_standing_17 : decode cX11_standing 17 = .ok (.invokevirtual 315, 3) := by decide +kernel
theorem dX11_standing_20 : decode cX11_standing 20 = .ok (.iadd, 1) := by decide +kernel
theorem dX11_standing_21 : decode cX11_standing 21 = .ok (.istore_n 1, 1) := by decide +kernel
theorem dX11_standing_22 : decode cX11_standing 22 = .ok (.iinc 2 1, 3) := by decide +kernel
theorem dX11_standing_25 : decode cX11_standing 25 = .ok (.goto (-21), 3) := by decide +kernel
theorem dX11_standing_28 : decode cX11_standing 28 = .ok (.iload_n 1, 1) := by decide +kernel
theorem dX11_standing_29 : decode cX11_standing 29 = .ok (.ireturn, 1) := by decide +kernel
theorem dX11_pieceOf_0 : decode cX11_pieceOf 0 = .ok (.aload_n 0, 1) := by decide +kernel
theorem dX11_pieceOf_1 : decode cX11_pieceOf 1 = .ok (.iload_n 1, 1) := by decide +kernel
theorem dX11_pieceOf_2 : decode cX11_pieceOf 2 = .ok (.iload_n 2, 1) := by decide +kernel
theorem dX11_pieceOf_3 : decode cX11_pieceOf 3 = .ok (.invokevirtual 214, 3) := by decide +kernel
theorem dX11_pieceOf_6 : decode cX11_pieceOf 6 = .ok (.aload_n 0, 1) := by decide +kernel
theorem dX11_pieceOf_7 : decode cX11_pieceOf 7 = .ok (.getfield 32, 3) := by decide +kernel
theorem dX11_pieceOf_10 : decode cX11_pieceOf 10 = .ok (.iload_n 1, 1) := by decide +kernel
theorem dX11_pieceOf_11 : decode cX11_pieceOf 11 = .ok (.aaload, 1) := by decide +kernel
theorem dX11_pieceOf_12 : decode cX11_pieceOf 12 = .ok (.iload_n 2, 1) := by decide +kernel
theorem dX11_pieceOf_13 : decode cX11_pieceOf 13 = .ok (.invokevirtual 217, 3) := by decide +kernel
theorem dX11_pieceOf_16 : decode cX11_pieceOf 16 = .ok (.getfield 318, 3) := by decide +kernel
theorem dX11_pieceOf_19 : decode cX11_pieceOf 19 = .ok (.ireturn, 1) := by decide +kernel
theorem dX11_part_0 : decode cX11_part 0 = .ok (.aload_n 0, 1) := by decide +kernel
theorem dX11_part_1 : decode cX11_part 1 = .ok (.iload_n 1, 1) := by decide +kernel
theorem dX11_part_2 : decode cX11_part 2 = .ok (.iload_n 2, 1) := by decide +kernel
theorem dX11_part_3 : decode cX11_part 3 = .ok (.invokevirtual 214, 3) := by decide +kernel
theorem dX11_part_6 : decode cX11_part 6 = .ok (.iload_n 3, 1) := by decide +kernel
theorem dX11_part_7 : decode cX11_part 7 = .ok (.invokestatic 249, 3) := by decide +kernel
theorem dX11_part_10 : decode cX11_part 10 = .ok (.aload_n 0, 1) := by decide +kernel
theorem dX11_part_11 : decode cX11_part 11 = .ok (.getfield 32, 3) := by decide +kernel
theorem dX11_part_14 : decode cX11_part 14 = .ok (.iload_n 1, 1) := by decide +kernel
theorem dX11_part_15 : decode cX11_part 15 = .ok (.aaload, 1) := by decide +kernel
theorem dX11_part_16 : decode cX11_part 16 = .ok (.iload_n 2, 1) := by decide +kernel
theorem dX11_part_17 : decode cX11_part 17 = .ok (.invokevirtual 217, 3) := by decide +kernel
theorem dX11_part_20 : decode cX11_part 20 = .ok (.getfield 221, 3) := by decide +kernel
theorem dX11_part_23 : decode cX11_part 23 = .ok (.iload_n 3, 1) := by decide +kernel
theorem dX11_part_24 : decode cX11_part 24 = .ok (.iaload, 1) := by decide +kernel
theorem dX11_part_25 : decode cX11_part 25 = .ok (.ireturn, 1) := by decide +kernel
theorem dX11_seal_0 : decode cX11_seal 0 = .ok (.aload_n 0, 1) := by decide +kernel
theorem dX11_seal_1 : decode cX11_seal 1 = .ok (.iload_n 1, 1) := by decide +kernel
theorem dX11_seal_2 : decode cX11_seal 2 = .ok (.iload_n 2, 1) := by decide +kernel
theorem dX11_seal_3 : decode cX11_seal 3 = .ok (.invokevirtual 214, 3) := by decide +kernel
theorem dX11_seal_6 : decode cX11_seal 6 = .ok (.aload_n 0, 1) := by decide +kernel
theorem dX11_seal_7 : decode cX11_seal 7 = .ok (.getfield 32, 3) := by decide +kernel
theorem dX11_seal_10 : decode cX11_seal 10 = .ok (.iload_n 1, 1) := by decide +kernel
theorem dX11_seal_11 : decode cX11_seal 11 = .ok (.aaload, 1) := by decide +kernel
theorem dX11_seal_12 : decode cX11_seal 12 = .ok (.iload_n 2, 1) := by decide +kernel
theorem dX11_seal_13 : decode cX11_seal 13 = .ok (.invokevirtual 217, 3) := by decide +kernel
theorem dX11_seal_16 : decode cX11_seal 16 = .ok (.getfield 321, 3) := by decide +kernel
theorem dX11_seal_19 : decode cX11_seal 19 = .ok (.ireturn, 1) := by decide +kernel
theorem dX11_broken_0 : decode cX11_broken 0 = .ok (.iload_n 1, 1) := by decide +kernel
theorem dX11_broken_1 : decode cX11_broken 1 = .ok (.invokestatic 99, 3) := by decide +kernel
theorem dX11_broken_4 : decode cX11_broken 4 = .ok (.aload_n 0, 1) := by decide +kernel
theorem dX11_broken_5 : decode cX11_broken 5 = .ok (.getfield 32, 3) := by decide +kernel
theorem dX11_broken_8 : decode cX11_broken 8 = .ok (.iload_n 1, 1) := by decide +kernel
theorem dX11_broken_9 : decode cX11_broken 9 = .ok (.aaload, 1) := by decide +kernel
theorem dX11_broken_10 : decode cX11_broken 10 = .ok (.invokevirtual 324, 3) := by decide +kernel
theorem dX11_broken_13 : decode cX11_broken 13 = .ok (.ireturn, 1) := by decide +kernel
theorem dX11_size_0 : decode cX11_size 0 = .ok (.aload_n 0, 1) := by decide +kernel
theorem dX11_size_1 : decode cX11_size 1 = .ok (.iload_n 1, 1) := by decide +kernel
theorem dX11_size_2 : decode cX11_size 2 = .ok (.invokevirtual 327, 3) := by decide +kernel
theorem dX11_size_5 : decode cX11_size 5 = .ok (.aload_n 0, 1) := by decide +kernel
theorem dX11_size_6 : decode cX11_size 6 = .ok (.getfield 39, 3) := by decide +kernel
theorem dX11_size_9 : decode cX11_size 9 = .ok (.iload_n 1, 1) := by decide +kernel
theorem dX11_size_10 : decode cX11_size 10 = .ok (.invokevirtual 121, 3) := by decide +kernel
theorem dX11_size_13 : decode cX11_size 13 = .ok (.checkcast 233, 3) := by decide +kernel
theorem dX11_size_16 : decode cX11_size 16 = .ok (.getfield 330, 3) := by decide +kernel
theorem dX11_size_19 : decode cX11_size 19 = .ok (.ireturn, 1) := by decide +kernel
theorem dX11_copied_0 : decode cX11_copied 0 = .ok (.aload_n 0, 1) := by decide +kernel
theorem dX11_copied_1 : decode cX11_copied 1 = .ok (.iload_n 1, 1) := by decide +kernel
theorem dX11_copied_2 : decode cX11_copied 2 = .ok (.iload_n 2, 1) := by decide +kernel
theorem dX11_copied_3 : decode cX11_copied 3 = .ok (.invokevirtual 246, 3) := by decide +kernel
theorem dX11_copied_6 : decode cX11_copied 6 = .ok (.iload_n 3, 1) := by decide +kernel
theorem dX11_copied_7 : decode cX11_copied 7 = .ok (.invokestatic 249, 3) := by decide +kernel
theorem dX11_copied_10 : decode cX11_copied 10 = .ok (.aload_n 0, 1) := by decide +kernel
theorem dX11_copied_11 : decode cX11_copied 11 = .ok (.getfield 39, 3) := by decide +kernel
theorem dX11_copied_14 : decode cX11_copied 14 = .ok (.iload_n 1, 1) := by decide +kernel
theorem dX11_copied_15 : decode cX11_copied 15 = .ok (.invokevirtual 121, 3) := by decide +kernel
theorem dX11_copied_18 : decode cX11_copied 18 = .ok (.checkcast 233, 3) := by decide +kernel
theorem dX11_copied_21 : decode cX11_copied 21 = .ok (.astore 4, 2) := by decide +kernel
theorem dX11_copied_23 : decode cX11_copied 23 = .ok (.aload 4, 2) := by decide +kernel
theorem dX11_copied_25 : decode cX11_copied 25 = .ok (.iload_n 3, 1) := by decide +kernel
theorem dX11_copied_26 : decode cX11_copied 26 = .ok (.invokevirtual 252, 3) := by decide +kernel
theorem dX11_copied_29 : decode cX11_copied 29 = .ok (.ifCond .eq 7, 3) := by decide +kernel
theorem dX11_copied_32 : decode cX11_copied 32 = .ok (.iconst (-1), 1) := by decide +kernel
theorem dX11_copied_33 : decode cX11_copied 33 = .ok (.goto 12, 3) := by decide +kernel
theorem dX11_copied_36 : decode cX11_copied 36 = .ok (.aload 4, 2) := by decide +kernel
theorem dX11_copied_38 : decode cX11_copied 38 = .ok (.getfield 257, 3) := by decide +kernel
theorem dX11_copied_41 : decode cX11_copied 41 = .ok (.iload_n 2, 1) := by decide +kernel
theorem dX11_copied_42 : decode cX11_copied 42 = .ok (.aaload, 1) := by decide +kernel
theorem dX11_copied_43 : decode cX11_copied 43 = .ok (.iload_n 3, 1) := by decide +kernel
theorem dX11_copied_44 : decode cX11_copied 44 = .ok (.iaload, 1) := by decide +kernel
theorem dX11_copied_45 : decode cX11_copied 45 = .ok (.ireturn, 1) := by decide +kernel
theorem dX11_brokenCopy_0 : decode cX11_brokenCopy 0 = .ok (.aload_n 0, 1) := by decide +kernel
theorem dX11_brokenCopy_1 : decode cX11_brokenCopy 1 = .ok (.iload_n 1, 1) := by decide +kernel
theorem dX11_brokenCopy_2 : decode cX11_brokenCopy 2 = .ok (.invokevirtual 327, 3) := by decide +kernel
theorem dX11_brokenCopy_5 : decode cX11_brokenCopy 5 = .ok (.aload_n 0, 1) := by decide +kernel
theorem dX11_brokenCopy_6 : decode cX11_brokenCopy 6 = .ok (.getfield 39, 3) := by decide +kernel
theorem dX11_brokenCopy_9 : decode cX11_brokenCopy 9 = .ok (.iload_n 1, 1) := by decide +kernel
theorem dX11_brokenCopy_10 : decode cX11_brokenCopy 10 = .ok (.invokevirtual 121, 3) := by decide +kernel
theorem dX11_brokenCopy_13 : decode cX11_brokenCopy 13 = .ok (.checkcast 233, 3) := by decide +kernel
theorem dX11_brokenCopy_16 : decode cX11_brokenCopy 16 = .ok (.invokevirtual 333, 3) := by decide +kernel
theorem dX11_brokenCopy_19 : decode cX11_brokenCopy 19 = .ok (.ireturn, 1) := by decide +kernel
theorem dX11_isTrue_0 : decode cX11_isTrue 0 = .ok (.aload_n 0, 1) := by decide +kernel
theorem dX11_isTrue_1 : decode cX11_isTrue 1 = .ok (.iload_n 1, 1) := by decide +kernel
theorem dX11_isTrue_2 : decode cX11_isTrue 2 = .ok (.invokevirtual 327, 3) := by decide +kernel
theorem dX11_isTrue_5 : decode cX11_isTrue 5 = .ok (.aload_n 0, 1) := by decide +kernel
theorem dX11_isTrue_6 : decode cX11_isTrue 6 = .ok (.getfield 39, 3) := by decide +kernel
theorem dX11_isTrue_9 : decode cX11_isTrue 9 = .ok (.iload_n 1, 1) := by decide +kernel
theorem dX11_isTrue_10 : decode cX11_isTrue 10 = .ok (.invokevirtual 121, 3) := by decide +kernel
theorem dX11_isTrue_13 : decode cX11_isTrue 13 = .ok (.checkcast 233, 3) := by decide +kernel
theorem dX11_isTrue_16 : decode cX11_isTrue 16 = .ok (.astore_n 2, 1) := by decide +kernel
theorem dX11_isTrue_17 : decode cX11_isTrue 17 = .ok (.aload_n 2, 1) := by decide +kernel
theorem dX11_isTrue_18 : decode cX11_isTrue 18 = .ok (.aload_n 0, 1) := by decide +kernel
theorem dX11_isTrue_19 : decode cX11_isTrue 19 = .ok (.getfield 32, 3) := by decide +kernel
theorem dX11_isTrue_22 : decode cX11_isTrue 22 = .ok (.aload_n 2, 1) := by decide +kernel
theorem dX11_isTrue_23 : decode cX11_isTrue 23 = .ok (.getfield 334, 3) := by decide +kernel
theorem dX11_isTrue_26 : decode cX11_isTrue 26 = .ok (.aaload, 1) := by decide +kernel
theorem dX11_isTrue_27 : decode cX11_isTrue 27 = .ok (.invokevirtual 335, 3) := by decide +kernel
theorem dX11_isTrue_30 : decode cX11_isTrue 30 = .ok (.ireturn, 1) := by decide +kernel
theorem dX11_makePower_0 : decode cX11_makePower 0 = .ok (.new 125, 3) := by decide +kernel
theorem dX11_makePower_3 : decode cX11_makePower 3 = .ok (.dup, 1) := by decide +kernel
theorem dX11_makePower_4 : decode cX11_makePower 4 = .ok (.aload_n 0, 1) := by decide +kernel
theorem dX11_makePower_5 : decode cX11_makePower 5 = .ok (.getfield 26, 3) := by decide +kernel
theorem dX11_makePower_8 : decode cX11_makePower 8 = .ok (.invokevirtual 227, 3) := by decide +kernel
theorem dX11_makePower_11 : decode cX11_makePower 11 = .ok (.aload_n 2, 1) := by decide +kernel
theorem dX11_makePower_12 : decode cX11_makePower 12 = .ok (.iload_n 3, 1) := by decide +kernel
theorem dX11_makePower_13 : decode cX11_makePower 13 = .ok (.iload 4, 2) := by decide +kernel
theorem dX11_makePower_15 : decode cX11_makePower 15 = .ok (.aload_n 0, 1) := by decide +kernel
theorem dX11_makePower_16 : decode cX11_makePower 16 = .ok (.getfield 52, 3) := by decide +kernel
theorem dX11_makePower_19 : decode cX11_makePower 19 = .ok (.aload_n 0, 1) := by decide +kernel
theorem dX11_makePower_20 : decode cX11_makePower 20 = .ok (.getfield 42, 3) := by decide +kernel
theorem dX11_makePower_23 : decode cX11_makePower 23 = .ok (.invokespecial 339, 3) := by decide +kernel
theorem dX11_makePower_26 : decode cX11_makePower 26 = .ok (.astore 5, 2) := by decide +kernel
theorem dX11_makePower_28 : decode cX11_makePower 28 = .ok (.aload_n 0, 1) := by decide +kernel
theorem dX11_makePower_29 : decode cX11_makePower 29 = .ok (.getfield 26, 3) := by decide +kernel
theorem dX11_makePower_32 : decode cX11_makePower 32 = .ok (.aload 5, 2) := by decide +kernel
theorem dX11_makePower_34 : decode cX11_makePower 34 = .ok (.invokevirtual 242, 3) := by decide +kernel
theorem dX11_makePower_37 : decode cX11_makePower 37 = .ok (.pop, 1) := by decide +kernel
theorem dX11_makePower_38 : decode cX11_makePower 38 = .ok (.aload_n 0, 1) := by decide +kernel
theorem dX11_makePower_39 : decode cX11_makePower 39 = .ok (.getfield 19, 3) := by decide +kernel
theorem dX11_makePower_42 : decode cX11_makePower 42 = .ok (.aload 5, 2) := by decide +kernel
theorem dX11_makePower_44 : decode cX11_makePower 44 = .ok (.iload_n 1, 1) := by decide +kernel
theorem dX11_makePower_45 : decode cX11_makePower 45 = .ok (.aload_n 0, 1) := by decide +kernel
theorem dX11_makePower_46 : decode cX11_makePower 46 = .ok (.getfield 42, 3) := by decide +kernel
theorem dX11_makePower_49 : decode cX11_makePower 49 = .ok (.invokevirtual 171, 3) := by decide +kernel
theorem dX11_makePower_52 : decode cX11_makePower 52 = .ok (.pop, 1) := by decide +kernel
theorem dX11_makePower_53 : decode cX11_makePower 53 = .ok (.aload 5, 2) := by decide +kernel
theorem dX11_makePower_55 : decode cX11_makePower 55 = .ok (.getfield 300, 3) := by decide +kernel
theorem dX11_makePower_58 : decode cX11_makePower 58 = .ok (.ireturn, 1) := by decide +kernel
theorem dX11_deedNow_0 : decode cX11_deedNow 0 = .ok (.new 342, 3) := by decide +kernel
theorem dX11_deedNow_3 : decode cX11_deedNow 3 = .ok (.dup, 1) := by decide +kernel
theorem dX11_deedNow_4 : decode cX11_deedNow 4 = .ok (.iload_n 1, 1) := by decide +kernel
theorem dX11_deedNow_5 : decode cX11_deedNow 5 = .ok (.aload_n 0, 1) := by decide +kernel
theorem dX11_deedNow_6 : decode cX11_deedNow 6 = .ok (.getfield 42, 3) := by decide +kernel
theorem dX11_deedNow_9 : decode cX11_deedNow 9 = .ok (.iload_n 2, 1) := by decide +kernel
theorem dX11_deedNow_10 : decode cX11_deedNow 10 = .ok (.aload_n 0, 1) := by decide +kernel
theorem dX11_deedNow_11 : decode cX11_deedNow 11 = .ok (.getfield 59, 3) := by decide +kernel
theorem dX11_deedNow_14 : decode cX11_deedNow 14 = .ok (.iload_n 3, 1) := by decide +kernel
theorem dX11_deedNow_15 : decode cX11_deedNow 15 = .ok (.aload_n 0, 1) := by decide +kernel
theorem dX11_deedNow_16 : decode cX11_deedNow 16 = .ok (.getfield 56, 3) := by decide +kernel
theorem dX11_deedNow_19 : decode cX11_deedNow 19 = .ok (.invokespecial 344, 3) := by decide +kernel
theorem dX11_deedNow_22 : decode cX11_deedNow 22 = .ok (.areturn, 1) := by decide +kernel
theorem dX11_isGoodAt_0 : decode cX11_isGoodAt 0 = .ok (.aload_n 0, 1) := by decide +kernel
theorem dX11_isGoodAt_1 : decode cX11_isGoodAt 1 = .ok (.getfield 19, 3) := by decide +kernel
theorem dX11_isGoodAt_4 : decode cX11_isGoodAt 4 = .ok (.iload_n 1, 1) := by decide +kernel
theorem dX11_isGoodAt_5 : decode cX11_isGoodAt 5 = .ok (.invokevirtual 154, 3) := by decide +kernel
theorem dX11_isGoodAt_8 : decode cX11_isGoodAt 8 = .ok (.aload_n 0, 1) := by decide +kernel
theorem dX11_isGoodAt_9 : decode cX11_isGoodAt 9 = .ok (.getfield 19, 3) := by decide +kernel
theorem dX11_isGoodAt_12 : decode cX11_isGoodAt 12 = .ok (.aload_n 2, 1) := by decide +kernel
theorem dX11_isGoodAt_13 : decode cX11_isGoodAt 13 = .ok (.invokevirtual 157, 3) := by decide +kernel
theorem dX11_isGoodAt_16 : decode cX11_isGoodAt 16 = .ok (.ifCond .eq 29, 3) := by decide +kernel
theorem dX11_isGoodAt_19 : decode cX11_isGoodAt 19 = .ok (.aload_n 0, 1) := by decide +kernel
theorem dX11_isGoodAt_20 : decode cX11_isGoodAt 20 = .ok (.getfield 19, 3) := by decide +kernel
theorem dX11_isGoodAt_23 : decode cX11_isGoodAt 23 = .ok (.aload_n 2, 1) := by decide +kernel
theorem dX11_isGoodAt_24 : decode cX11_isGoodAt 24 = .ok (.invokevirtual 161, 3) := by decide +kernel
theorem dX11_isGoodAt_27 : decode cX11_isGoodAt 27 = .ok (.ifCond .ne 18, 3) := by decide +kernel
theorem dX11_isGoodAt_30 : decode cX11_isGoodAt 30 = .ok (.aload_n 2, 1) := by decide +kernel
theorem dX11_isGoodAt_31 : decode cX11_isGoodAt 31 = .ok (.aload_n 0, 1) := by decide +kernel
theorem dX11_isGoodAt_32 : decode cX11_isGoodAt 32 = .ok (.getfield 42, 3) := by decide +kernel
theorem dX11_isGoodAt_35 : decode cX11_isGoodAt 35 = .ok (.invokevirtual 347, 3) := by decide +kernel
theorem dX11_isGoodAt_38 : decode cX11_isGoodAt 38 = .ok (.ifCond .ne 7, 3) := by decide +kernel
theorem dX11_isGoodAt_41 : decode cX11_isGoodAt 41 = .ok (.iconst 1, 1) := by decide +kernel
theorem dX11_isGoodAt_42 : decode cX11_isGoodAt 42 = .ok (.goto 4, 3) := by decide +kernel
theorem dX11_isGoodAt_45 : decode cX11_isGoodAt 45 = .ok (.iconst 0, 1) := by decide +kernel
theorem dX11_isGoodAt_46 : decode cX11_isGoodAt 46 = .ok (.ireturn, 1) := by decide +kernel
theorem dX11_reasonByMail_0 : decode cX11_reasonByMail 0 = .ok (.aload_n 0, 1) := by decide +kernel
theorem dX11_reasonByMail_1 : decode cX11_reasonByMail 1 = .ok (.getfield 19, 3) := by decide +kernel
theorem dX11_reasonByMail_4 : decode cX11_reasonByMail 4 = .ok (.aload_n 1, 1) := by decide +kernel
theorem dX11_reasonByMail_5 : decode cX11_reasonByMail 5 = .ok (.invokevirtual 350, 3) := by decide +kernel
theorem dX11_reasonByMail_8 : decode cX11_reasonByMail 8 = .ok (.aload_n 0, 1) := by decide +kernel
theorem dX11_reasonByMail_9 : decode cX11_reasonByMail 9 = .ok (.getfield 19, 3) := by decide +kernel
theorem dX11_reasonByMail_12 : decode cX11_reasonByMail 12 = .ok (.aload_n 1, 1) := by decide +kernel
theorem dX11_reasonByMail_13 : decode cX11_reasonByMail 13 = .ok (.getfield 354, 3) := by decide +kernel
theorem dX11_reasonByMail_16 : decode cX11_reasonByMail 16 = .ok (.aload_n 1, 1) := by decide +kernel
theorem dX11_reasonByMail_17 : decode cX11_reasonByMail 17 = .ok (.getfield 357, 3) := by decide +kernel
theorem dX11_reasonByMail_20 : decode cX11_reasonByMail 20 = .ok (.invokevirtual 192, 3) := by decide +kernel
theorem dX11_reasonByMail_23 : decode cX11_reasonByMail 23 = .ok (.ireturn, 1) := by decide +kernel
theorem dX11_mustBeKiosk_0 : decode cX11_mustBeKiosk 0 = .ok (.iload_n 0, 1) := by decide +kernel
theorem dX11_mustBeKiosk_1 : decode cX11_mustBeKiosk 1 = .ok (.ifCond .lt 9, 3) := by decide +kernel
theorem dX11_mustBeKiosk_4 : decode cX11_mustBeKiosk 4 = .ok (.iload_n 0, 1) := by decide +kernel
theorem dX11_mustBeKiosk_5 : decode cX11_mustBeKiosk 5 = .ok (.bipush 6, 2) := by decide +kernel
theorem dX11_mustBeKiosk_7 : decode cX11_mustBeKiosk 7 = .ok (.if_icmp .lt 14, 3) := by decide +kernel
theorem dX11_mustBeKiosk_10 : decode cX11_mustBeKiosk 10 = .ok (.new 361, 3) := by decide +kernel
theorem dX11_mustBeKiosk_13 : decode cX11_mustBeKiosk 13 = .ok (.dup, 1) := by decide +kernel
theorem dX11_mustBeKiosk_14 : decode cX11_mustBeKiosk 14 = .ok (.ldc_w 363, 3) := by decide +kernel
theorem dX11_mustBeKiosk_17 : decode cX11_mustBeKiosk 17 = .ok (.invokespecial 365, 3) := by decide +kernel
theorem dX11_mustBeKiosk_20 : decode cX11_mustBeKiosk 20 = .ok (.athrow, 1) := by decide +kernel
theorem dX11_mustBeKiosk_21 : decode cX11_mustBeKiosk 21 = .ok (.return_, 1) := by decide +kernel
theorem dX11_mustBeTwoKiosks_0 : decode cX11_mustBeTwoKiosks 0 = .ok (.iload_n 0, 1) := by decide +kernel
theorem dX11_mustBeTwoKiosks_1 : decode cX11_mustBeTwoKiosks 1 = .ok (.invokestatic 99, 3) := by decide +kernel
theorem dX11_mustBeTwoKiosks_4 : decode cX11_mustBeTwoKiosks 4 = .ok (.iload_n 1, 1) := by decide +kernel
theorem dX11_mustBeTwoKiosks_5 : decode cX11_mustBeTwoKiosks 5 = .ok (.invokestatic 99, 3) := by decide +kernel
theorem dX11_mustBeTwoKiosks_8 : decode cX11_mustBeTwoKiosks 8 = .ok (.iload_n 0, 1) := by decide +kernel
theorem dX11_mustBeTwoKiosks_9 : decode cX11_mustBeTwoKiosks 9 = .ok (.iload_n 1, 1) := by decide +kernel
theorem dX11_mustBeTwoKiosks_10 : decode cX11_mustBeTwoKiosks 10 = .ok (.if_icmp .ne 14, 3) := by decide +kernel
theorem dX11_mustBeTwoKiosks_13 : decode cX11_mustBeTwoKiosks 13 = .ok (.new 134, 3) := by decide +kernel
theorem dX11_mustBeTwoKiosks_16 : decode cX11_mustBeTwoKiosks 16 = .ok (.dup, 1) := by decide +kernel
theorem dX11_mustBeTwoKiosks_17 : decode cX11_mustBeTwoKiosks 17 = .ok (.ldc_w 366, 3) := by decide +kernel
theorem dX11_mustBeTwoKiosks_20 : decode cX11_mustBeTwoKiosks 20 = .ok (.invokespecial 138, 3) := by decide +kernel
theorem dX11_mustBeTwoKiosks_23 : decode cX11_mustBeTwoKiosks 23 = .ok (.athrow, 1) := by decide +kernel
theorem dX11_mustBeTwoKiosks_24 : decode cX11_mustBeTwoKiosks 24 = .ok (.return_, 1) := by decide +kernel
theorem dX11_mustBePerson_0 : decode cX11_mustBePerson 0 = .ok (.iload_n 0, 1) := by decide +kernel
theorem dX11_mustBePerson_1 : decode cX11_mustBePerson 1 = .ok (.ifCond .lt 9, 3) := by decide +kernel
theorem dX11_mustBePerson_4 : decode cX11_mustBePerson 4 = .ok (.iload_n 0, 1) := by decide +kernel
theorem dX11_mustBePerson_5 : decode cX11_mustBePerson 5 = .ok (.bipush 10, 2) := by decide +kernel
theorem dX11_mustBePerson_7 : decode cX11_mustBePerson 7 = .ok (.if_icmp .lt 14, 3) := by decide +kernel
theorem dX11_mustBePerson_10 : decode cX11_mustBePerson 10 = .ok (.new 361, 3) := by decide +kernel
theorem dX11_mustBePerson_13 : decode cX11_mustBePerson 13 = .ok (.dup, 1) := by decide +kernel
theorem dX11_mustBePerson_14 : decode cX11_mustBePerson 14 = .ok (.ldc_w 368, 3) := by decide +kernel
theorem dX11_mustBePerson_17 : decode cX11_mustBePerson 17 = .ok (.invokespecial 365, 3) := by decide +kernel
theorem dX11_mustBePerson_20 : decode cX11_mustBePerson 20 = .ok (.athrow, 1) := by decide +kernel
theorem dX11_mustBePerson_21 : decode cX11_mustBePerson 21 = .ok (.return_, 1) := by decide +kernel
theorem dX11_mustBeOtherPerson_0 : decode cX11_mustBeOtherPerson 0 = .ok (.iload_n 0, 1) := by decide +kernel
theorem dX11_mustBeOtherPerson_1 : decode cX11_mustBeOtherPerson 1 = .ok (.iload_n 1, 1) := by decide +kernel
theorem dX11_mustBeOtherPerson_2 : decode cX11_mustBeOtherPerson 2 = .ok (.if_icmp .ne 14, 3) := by decide +kernel
theorem dX11_mustBeOtherPerson_5 : decode cX11_mustBeOtherPerson 5 = .ok (.new 134, 3) := by decide +kernel
theorem dX11_mustBeOtherPerson_8 : decode cX11_mustBeOtherPerson 8 = .ok (.dup, 1) := by decide +kernel
theorem dX11_mustBeOtherPerson_9 : decode cX11_mustBeOtherPerson 9 = .ok (.ldc_w 370, 3) := by decide +kernel
theorem dX11_mustBeOtherPerson_12 : decode cX11_mustBeOtherPerson 12 = .ok (.invokespecial 138, 3) := by decide +kernel
theorem dX11_mustBeOtherPerson_15 : decode cX11_mustBeOtherPerson 15 = .ok (.athrow, 1) := by decide +kernel
theorem dX11_mustBeOtherPerson_16 : decode cX11_mustBeOtherPerson 16 = .ok (.return_, 1) := by decide +kernel
theorem dX11_mustBePart_0 : decode cX11_mustBePart 0 = .ok (.iload_n 0, 1) := by decide +kernel
theorem dX11_mustBePart_1 : decode cX11_mustBePart 1 = .ok (.ifCond .lt 9, 3) := by decide +kernel
theorem dX11_mustBePart_4 : decode cX11_mustBePart 4 = .ok (.iload_n 0, 1) := by decide +kernel
theorem dX11_mustBePart_5 : decode cX11_mustBePart 5 = .ok (.bipush 6, 2) := by decide +kernel
theorem dX11_mustBePart_7 : decode cX11_mustBePart 7 = .ok (.if_icmp .lt 14, 3) := by decide +kernel
theorem dX11_mustBePart_10 : decode cX11_mustBePart 10 = .ok (.new 361, 3) := by decide +kernel
theorem dX11_mustBePart_13 : decode cX11_mustBePart 13 = .ok (.dup, 1) := by decide +kernel
theorem dX11_mustBePart_14 : decode cX11_mustBePart 14 = .ok (.ldc_w 372, 3) := by decide +kernel
theorem dX11_mustBePart_17 : decode cX11_mustBePart 17 = .ok (.invokespecial 365, 3) := by decide +kernel
theorem dX11_mustBePart_20 : decode cX11_mustBePart 20 = .ok (.athrow, 1) := by decide +kernel
theorem dX11_mustBePart_21 : decode cX11_mustBePart 21 = .ok (.return_, 1) := by decide +kernel
theorem dX11_mustBeWithin_0 : decode cX11_mustBeWithin 0 = .ok (.iload_n 0, 1) := by decide +kernel
theorem dX11_mustBeWithin_1 : decode cX11_mustBeWithin 1 = .ok (.iload_n 1, 1) := by decide +kernel
theorem dX11_mustBeWithin_2 : decode cX11_mustBeWithin 2 = .ok (.if_icmp .lt 8, 3) := by decide +kernel
theorem dX11_mustBeWithin_5 : decode cX11_mustBeWithin 5 = .ok (.iload_n 0, 1) := by decide +kernel
theorem dX11_mustBeWithin_6 : decode cX11_mustBeWithin 6 = .ok (.iload_n 2, 1) := by decide +kernel
theorem dX11_mustBeWithin_7 : decode cX11_mustBeWithin 7 = .ok (.if_icmp .le 14, 3) := by decide +kernel
theorem dX11_mustBeWithin_10 : decode cX11_mustBeWithin 10 = .ok (.new 134, 3) := by decide +kernel
theorem dX11_mustBeWithin_13 : decode cX11_mustBeWithin 13 = .ok (.dup, 1) := by decide +kernel
theorem dX11_mustBeWithin_14 : decode cX11_mustBeWithin 14 = .ok (.ldc_w 374, 3) := by decide +kernel
theorem dX11_mustBeWithin_17 : decode cX11_mustBeWithin 17 = .ok (.invokespecial 138, 3) := by decide +kernel
theorem dX11_mustBeWithin_20 : decode cX11_mustBeWithin 20 = .ok (.athrow, 1) := by decide +kernel
theorem dX11_mustBeWithin_21 : decode cX11_mustBeWithin 21 = .ok (.return_, 1) := by decide +kernel
theorem dX11_mustBePower_0 : decode cX11_mustBePower 0 = .ok (.iload_n 1, 1) := by decide +kernel
theorem dX11_mustBePower_1 : decode cX11_mustBePower 1 = .ok (.ifCond .lt 14, 3) := by decide +kernel
theorem dX11_mustBePower_4 : decode cX11_mustBePower 4 = .ok (.iload_n 1, 1) := by decide +kernel
theorem dX11_mustBePower_5 : decode cX11_mustBePower 5 = .ok (.aload_n 0, 1) := by decide +kernel
theorem dX11_mustBePower_6 : decode cX11_mustBePower 6 = .ok (.getfield 26, 3) := by decide +kernel
theorem dX11_mustBePower_9 : decode cX11_mustBePower 9 = .ok (.invokevirtual 227, 3) := by decide +kernel
theorem dX11_mustBePower_12 : decode cX11_mustBePower 12 = .ok (.if_icmp .lt 14, 3) := by decide +kernel
theorem dX11_mustBePower_15 : decode cX11_mustBePower 15 = .ok (.new 361, 3) := by decide +kernel
theorem dX11_mustBePower_18 : decode cX11_mustBePower 18 = .ok (.dup, 1) := by decide +kernel
theorem dX11_mustBePower_19 : decode cX11_mustBePower 19 = .ok (.ldc_w 376, 3) := by decide +kernel
theorem dX11_mustBePower_22 : decode cX11_mustBePower 22 = .ok (.invokespecial 365, 3) := by decide +kernel
theorem dX11_mustBePower_25 : decode cX11_mustBePower 25 = .ok (.athrow, 1) := by decide +kernel
theorem dX11_mustBePower_26 : decode cX11_mustBePower 26 = .ok (.return_, 1) := by decide +kernel
theorem dX11_mustBePiece_0 : decode cX11_mustBePiece 0 = .ok (.iload_n 1, 1) := by decide +kernel
theorem dX11_mustBePiece_1 : decode cX11_mustBePiece 1 = .ok (.ifCond .lt 14, 3) := by decide +kernel
theorem dX11_mustBePiece_4 : decode cX11_mustBePiece 4 = .ok (.iload_n 1, 1) := by decide +kernel
theorem dX11_mustBePiece_5 : decode cX11_mustBePiece 5 = .ok (.aload_n 0, 1) := by decide +kernel
theorem dX11_mustBePiece_6 : decode cX11_mustBePiece 6 = .ok (.getfield 19, 3) := by decide +kernel
theorem dX11_mustBePiece_9 : decode cX11_mustBePiece 9 = .ok (.invokevirtual 260, 3) := by decide +kernel
theorem dX11_mustBePiece_12 : decode cX11_mustBePiece 12 = .ok (.if_icmp .lt 14, 3) := by decide +kernel
theorem dX11_mustBePiece_15 : decode cX11_mustBePiece 15 = .ok (.new 361, 3) := by decide +kernel
theorem dX11_mustBePiece_18 : decode cX11_mustBePiece 18 = .ok (.dup, 1) := by decide +kernel
theorem dX11_mustBePiece_19 : decode cX11_mustBePiece 19 = .ok (.ldc_w 378, 3) := by decide +kernel
theorem dX11_mustBePiece_22 : decode cX11_mustBePiece 22 = .ok (.invokespecial 365, 3) := by decide +kernel
theorem dX11_mustBePiece_25 : decode cX11_mustBePiece 25 = .ok (.athrow, 1) := by decide +kernel
theorem dX11_mustBePiece_26 : decode cX11_mustBePiece 26 = .ok (.return_, 1) := by decide +kernel
theorem dX11_mustBeRecord_0 : decode cX11_mustBeRecord 0 = .ok (.iload_n 1, 1) := by decide +kernel
theorem dX11_mustBeRecord_1 : decode cX11_mustBeRecord 1 = .ok (.invokestatic 99, 3) := by decide +kernel
theorem dX11_mustBeRecord_4 : decode cX11_mustBeRecord 4 = .ok (.iload_n 2, 1) := by decide +kernel
theorem dX11_mustBeRecord_5 : decode cX11_mustBeRecord 5 = .ok (.ifCond .lt 16, 3) := by decide +kernel
theorem dX11_mustBeRecord_8 : decode cX11_mustBeRecord 8 = .ok (.iload_n 2, 1) := by decide +kernel
theorem dX11_mustBeRecord_9 : decode cX11_mustBeRecord 9 = .ok (.aload_n 0, 1) := by decide +kernel
theorem dX11_mustBeRecord_10 : decode cX11_mustBeRecord 10 = .ok (.getfield 32, 3) := by decide +kernel
theorem dX11_mustBeRecord_13 : decode cX11_mustBeRecord 13 = .ok (.iload_n 1, 1) := by decide +kernel
theorem dX11_mustBeRecord_14 : decode cX11_mustBeRecord 14 = .ok (.aaload, 1) := by decide +kernel
theorem dX11_mustBeRecord_15 : decode cX11_mustBeRecord 15 = .ok (.invokevirtual 263, 3) := by decide +kernel
theorem dX11_mustBeRecord_18 : decode cX11_mustBeRecord 18 = .ok (.if_icmp .lt 14, 3) := by decide +kernel
theorem dX11_mustBeRecord_21 : decode cX11_mustBeRecord 21 = .ok (.new 361, 3) := by decide +kernel
theorem dX11_mustBeRecord_24 : decode cX11_mustBeRecord 24 = .ok (.dup, 1) := by decide +kernel
theorem dX11_mustBeRecord_25 : decode cX11_mustBeRecord 25 = .ok (.ldc_w 380, 3) := by decide +kernel
theorem dX11_mustBeRecord_28 : decode cX11_mustBeRecord 28 = .ok (.invokespecial 365, 3) := by decide +kernel
theorem dX11_mustBeRecord_31 : decode cX11_mustBeRecord 31 = .ok (.athrow, 1) := by decide +kernel
theorem dX11_mustBeRecord_32 : decode cX11_mustBeRecord 32 = .ok (.return_, 1) := by decide +kernel
theorem dX11_mustBeCopy_0 : decode cX11_mustBeCopy 0 = .ok (.iload_n 1, 1) := by decide +kernel
theorem dX11_mustBeCopy_1 : decode cX11_mustBeCopy 1 = .ok (.ifCond .lt 14, 3) := by decide +kernel
theorem dX11_mustBeCopy_4 : decode cX11_mustBeCopy 4 = .ok (.iload_n 1, 1) := by decide +kernel
theorem dX11_mustBeCopy_5 : decode cX11_mustBeCopy 5 = .ok (.aload_n 0, 1) := by decide +kernel
theorem dX11_mustBeCopy_6 : decode cX11_mustBeCopy 6 = .ok (.getfield 39, 3) := by decide +kernel
theorem dX11_mustBeCopy_9 : decode cX11_mustBeCopy 9 = .ok (.invokevirtual 227, 3) := by decide +kernel
theorem dX11_mustBeCopy_12 : decode cX11_mustBeCopy 12 = .ok (.if_icmp .lt 14, 3) := by decide +kernel
theorem dX11_mustBeCopy_15 : decode cX11_mustBeCopy 15 = .ok (.new 361, 3) := by decide +kernel
theorem dX11_mustBeCopy_18 : decode cX11_mustBeCopy 18 = .ok (.dup, 1) := by decide +kernel
theorem dX11_mustBeCopy_19 : decode cX11_mustBeCopy 19 = .ok (.ldc_w 382, 3) := by decide +kernel
theorem dX11_mustBeCopy_22 : decode cX11_mustBeCopy 22 = .ok (.invokespecial 365, 3) := by decide +kernel
theorem dX11_mustBeCopy_25 : decode cX11_mustBeCopy 25 = .ok (.athrow, 1) := by decide +kernel
theorem dX11_mustBeCopy_26 : decode cX11_mustBeCopy 26 = .ok (.return_, 1) := by decide +kernel
theorem dX11_mustBePlace_0 : decode cX11_mustBePlace 0 = .ok (.aload_n 0, 1) := by decide +kernel
theorem dX11_mustBePlace_1 : decode cX11_mustBePlace 1 = .ok (.iload_n 1, 1) := by decide +kernel
theorem dX11_mustBePlace_2 : decode cX11_mustBePlace 2 = .ok (.invokevirtual 327, 3) := by decide +kernel
theorem dX11_mustBePlace_5 : decode cX11_mustBePlace 5 = .ok (.iload_n 2, 1) := by decide +kernel
theorem dX11_mustBePlace_6 : decode cX11_mustBePlace 6 = .ok (.ifCond .lt 21, 3) := by decide +kernel
theorem dX11_mustBePlace_9 : decode cX11_mustBePlace 9 = .ok (.iload_n 2, 1) := by decide +kernel
theorem dX11_mustBePlace_10 : decode cX11_mustBePlace 10 = .ok (.aload_n 0, 1) := by decide +kernel
theorem dX11_mustBePlace_11 : decode cX11_mustBePlace 11 = .ok (.getfield 39, 3) := by decide +kernel
theorem dX11_mustBePlace_14 : decode cX11_mustBePlace 14 = .ok (.iload_n 1, 1) := by decide +kernel
theorem dX11_mustBePlace_15 : decode cX11_mustBePlace 15 = .ok (.invokevirtual 121, 3) := by decide +kernel
theorem dX11_mustBePlace_18 : decode cX11_mustBePlace 18 = .ok (.checkcast 233, 3) := by decide +kernel
theorem dX11_mustBePlace_21 : decode cX11_mustBePlace 21 = .ok (.getfield 330, 3) := by decide +kernel
theorem dX11_mustBePlace_24 : decode cX11_mustBePlace 24 = .ok (.if_icmp .lt 14, 3) := by decide +kernel
theorem dX11_mustBePlace_27 : decode cX11_mustBePlace 27 = .ok (.new 361, 3) := by decide +kernel
theorem dX11_mustBePlace_30 : decode cX11_mustBePlace 30 = .ok (.dup, 1) := by decide +kernel
theorem dX11_mustBePlace_31 : decode cX11_mustBePlace 31 = .ok (.ldc_w 384, 3) := by decide +kernel
theorem dX11_mustBePlace_34 : decode cX11_mustBePlace 34 = .ok (.invokespecial 365, 3) := by decide +kernel
theorem dX11_mustBePlace_37 : decode cX11_mustBePlace 37 = .ok (.athrow, 1) := by decide +kernel
theorem dX11_mustBePlace_38 : decode cX11_mustBePlace 38 = .ok (.return_, 1) := by decide +kernel
theorem dX11_mustHaveRoomForNews_0 : decode cX11_mustHaveRoomForNews 0 = .ok (.aload_n 0, 1) := by decide +kernel
theorem dX11_mustHaveRoomForNews_1 : decode cX11_mustHaveRoomForNews 1 = .ok (.getfield 19, 3) := by decide +kernel
theorem dX11_mustHaveRoomForNews_4 : decode cX11_mustHaveRoomForNews 4 = .ok (.invokevirtual 260, 3) := by decide +kernel
theorem dX11_mustHaveRoomForNews_7 : decode cX11_mustHaveRoomForNews 7 = .ok (.sipush 160, 3) := by decide +kernel
theorem dX11_mustHaveRoomForNews_10 : decode cX11_mustHaveRoomForNews 10 = .ok (.if_icmp .lt 14, 3) := by decide +kernel
theorem dX11_mustHaveRoomForNews_13 : decode cX11_mustHaveRoomForNews 13 = .ok (.new 70, 3) := by decide +kernel
theorem dX11_mustHaveRoomForNews_16 : decode cX11_mustHaveRoomForNews 16 = .ok (.dup, 1) := by decide +kernel
theorem dX11_mustHaveRoomForNews_17 : decode cX11_mustHaveRoomForNews 17 = .ok (.ldc_w 386, 3) := by decide +kernel
theorem dX11_mustHaveRoomForNews_20 : decode cX11_mustHaveRoomForNews 20 = .ok (.invokespecial 74, 3) := by decide +kernel
theorem dX11_mustHaveRoomForNews_23 : decode cX11_mustHaveRoomForNews 23 = .ok (.athrow, 1) := by decide +kernel
theorem dX11_mustHaveRoomForNews_24 : decode cX11_mustHaveRoomForNews 24 = .ok (.return_, 1) := by decide +kernel
theorem dX11_mustHaveRoomForPower_0 : decode cX11_mustHaveRoomForPower 0 = .ok (.aload_n 0, 1) := by decide +kernel
theorem dX11_mustHaveRoomForPower_1 : decode cX11_mustHaveRoomForPower 1 = .ok (.getfield 26, 3) := by decide +kernel
theorem dX11_mustHaveRoomForPower_4 : decode cX11_mustHaveRoomForPower 4 = .ok (.invokevirtual 227, 3) := by decide +kernel
theorem dX11_mustHaveRoomForPower_7 : decode cX11_mustHaveRoomForPower 7 = .ok (.bipush 40, 2) := by decide +kernel
theorem dX11_mustHaveRoomForPower_9 : decode cX11_mustHaveRoomForPower 9 = .ok (.if_icmp .lt 14, 3) := by decide +kernel
theorem dX11_mustHaveRoomForPower_12 : decode cX11_mustHaveRoomForPower 12 = .ok (.new 70, 3) := by decide +kernel
theorem dX11_mustHaveRoomForPower_15 : decode cX11_mustHaveRoomForPower 15 = .ok (.dup, 1) := by decide +kernel
theorem dX11_mustHaveRoomForPower_16 : decode cX11_mustHaveRoomForPower 16 = .ok (.ldc_w 388, 3) := by decide +kernel
theorem dX11_mustHaveRoomForPower_19 : decode cX11_mustHaveRoomForPower 19 = .ok (.invokespecial 74, 3) := by decide +kernel
theorem dX11_mustHaveRoomForPower_22 : decode cX11_mustHaveRoomForPower 22 = .ok (.athrow, 1) := by decide +kernel
theorem dX11_mustHaveRoomForPower_23 : decode cX11_mustHaveRoomForPower 23 = .ok (.aload_n 0, 1) := by decide +kernel
theorem dX11_mustHaveRoomForPower_24 : decode cX11_mustHaveRoomForPower 24 = .ok (.invokevirtual 151, 3) := by decide +kernel
theorem dX11_mustHaveRoomForPower_27 : decode cX11_mustHaveRoomForPower 27 = .ok (.return_, 1) := by decide +kernel
theorem dX11_bit_0 : decode cX11_bit 0 = .ok (.iconst 1, 1) := by decide +kernel
theorem dX11_bit_1 : decode cX11_bit 1 = .ok (.iload_n 0, 1) := by decide +kernel
theorem dX11_bit_2 : decode cX11_bit 2 = .ok (.ishl, 1) := by decide +kernel
theorem dX11_bit_3 : decode cX11_bit 3 = .ok (.ireturn, 1) := by decide +kernel
theorem dX11_hasBit_0 : decode cX11_hasBit 0 = .ok (.iload_n 0, 1) := by decide +kernel
theorem dX11_hasBit_1 : decode cX11_hasBit 1 = .ok (.iload_n 1, 1) := by decide +kernel
theorem dX11_hasBit_2 : decode cX11_hasBit 2 = .ok (.invokestatic 279, 3) := by decide +kernel
theorem dX11_hasBit_5 : decode cX11_hasBit 5 = .ok (.iand, 1) := by decide +kernel
theorem dX11_hasBit_6 : decode cX11_hasBit 6 = .ok (.ifCond .eq 7, 3) := by decide +kernel
theorem dX11_hasBit_9 : decode cX11_hasBit 9 = .ok (.iconst 1, 1) := by decide +kernel
theorem dX11_hasBit_10 : decode cX11_hasBit 10 = .ok (.goto 4, 3) := by decide +kernel
theorem dX11_hasBit_13 : decode cX11_hasBit 13 = .ok (.iconst 0, 1) := by decide +kernel
theorem dX11_hasBit_14 : decode cX11_hasBit 14 = .ok (.ireturn, 1) := by decide +kernel
theorem dX11_sealOf_0 : decode cX11_sealOf 0 = .ok (.sipush 131, 3) := by decide +kernel
theorem dX11_sealOf_3 : decode cX11_sealOf 3 = .ok (.iload_n 0, 1) := by decide +kernel
theorem dX11_sealOf_4 : decode cX11_sealOf 4 = .ok (.imul, 1) := by decide +kernel
theorem dX11_sealOf_5 : decode cX11_sealOf 5 = .ok (.bipush 17, 2) := by decide +kernel
theorem dX11_sealOf_7 : decode cX11_sealOf 7 = .ok (.iload_n 1, 1) := by decide +kernel
theorem dX11_sealOf_8 : decode cX11_sealOf 8 = .ok (.imul, 1) := by decide +kernel
theorem dX11_sealOf_9 : decode cX11_sealOf 9 = .ok (.iadd, 1) := by decide +kernel
theorem dX11_sealOf_10 : decode cX11_sealOf 10 = .ok (.bipush 7, 2) := by decide +kernel
theorem dX11_sealOf_12 : decode cX11_sealOf 12 = .ok (.iadd, 1) := by decide +kernel
theorem dX11_sealOf_13 : decode cX11_sealOf 13 = .ok (.ldc_w 390, 3) := by decide +kernel
theorem dX11_sealOf_16 : decode cX11_sealOf 16 = .ok (.irem, 1) := by decide +kernel
theorem dX11_sealOf_17 : decode cX11_sealOf 17 = .ok (.ireturn, 1) := by decide +kernel
theorem dX11_saltOf_0 : decode cX11_saltOf 0 = .ok (.sipush 7919, 3) := by decide +kernel
theorem dX11_saltOf_3 : decode cX11_saltOf 3 = .ok (.iload_n 0, 1) := by decide +kernel
theorem dX11_saltOf_4 : decode cX11_saltOf 4 = .ok (.imul, 1) := by decide +kernel
theorem dX11_saltOf_5 : decode cX11_saltOf 5 = .ok (.sipush 613, 3) := by decide +kernel
theorem dX11_saltOf_8 : decode cX11_saltOf 8 = .ok (.iload_n 1, 1) := by decide +kernel
theorem dX11_saltOf_9 : decode cX11_saltOf 9 = .ok (.imul, 1) := by decide +kernel
theorem dX11_saltOf_10 : decode cX11_saltOf 10 = .ok (.iadd, 1) := by decide +kernel
theorem dX11_saltOf_11 : decode cX11_saltOf 11 = .ok (.bipush 97, 2) := by decide +kernel
theorem dX11_saltOf_13 : decode cX11_saltOf 13 = .ok (.iload_n 2, 1) := by decide +kernel
theorem dX11_saltOf_14 : decode cX11_saltOf 14 = .ok (.imul, 1) := by decide +kernel
theorem dX11_saltOf_15 : decode cX11_saltOf 15 = .ok (.iadd, 1) := by decide +kernel
theorem dX11_saltOf_16 : decode cX11_saltOf 16 = .ok (.ireturn, 1) := by decide +kernel
theorem dX11_markOf_0 : decode cX11_markOf 0 = .ok (.iload_n 0, 1) := by decide +kernel
theorem dX11_markOf_1 : decode cX11_markOf 1 = .ok (.iload_n 1, 1) := by decide +kernel
theorem dX11_markOf_2 : decode cX11_markOf 2 = .ok (.iload_n 2, 1) := by decide +kernel
theorem dX11_markOf_3 : decode cX11_markOf 3 = .ok (.invokestatic 391, 3) := by decide +kernel
theorem dX11_markOf_6 : decode cX11_markOf 6 = .ok (.iload_n 3, 1) := by decide +kernel
theorem dX11_markOf_7 : decode cX11_markOf 7 = .ok (.invokestatic 395, 3) := by decide +kernel
theorem dX11_markOf_10 : decode cX11_markOf 10 = .ok (.ireturn, 1) := by decide +kernel
theorem dX11_sealFrom_0 : decode cX11_sealFrom 0 = .ok (.iconst 1, 1) := by decide +kernel
theorem dX11_sealFrom_1 : decode cX11_sealFrom 1 = .ok (.istore 5, 2) := by decide +kernel
theorem dX11_sealFrom_3 : decode cX11_sealFrom 3 = .ok (.iconst 0, 1) := by decide +kernel
theorem dX11_sealFrom_4 : decode cX11_sealFrom 4 = .ok (.istore 6, 2) := by decide +kernel
theorem dX11_sealFrom_6 : decode cX11_sealFrom 6 = .ok (.iload 6, 2) := by decide +kernel
theorem dX11_sealFrom_8 : decode cX11_sealFrom 8 = .ok (.bipush 6, 2) := by decide +kernel
theorem dX11_sealFrom_10 : decode cX11_sealFrom 10 = .ok (.if_icmp .ge 55, 3) := by decide +kernel
theorem dX11_sealFrom_13 : decode cX11_sealFrom 13 = .ok (.iload 6, 2) := by decide +kernel
theorem dX11_sealFrom_15 : decode cX11_sealFrom 15 = .ok (.aload_n 3, 1) := by decide +kernel
theorem dX11_sealFrom_16 : decode cX11_sealFrom 16 = .ok (.arraylength, 1) := by decide +kernel
theorem dX11_sealFrom_17 : decode cX11_sealFrom 17 = .ok (.if_icmp .ge 48, 3) := by decide +kernel
theorem dX11_sealFrom_20 : decode cX11_sealFrom 20 = .ok (.iload 4, 2) := by decide +kernel
theorem dX11_sealFrom_22 : decode cX11_sealFrom 22 = .ok (.iload 6, 2) := by decide +kernel
theorem dX11_sealFrom_24 : decode cX11_sealFrom 24 = .ok (.invokestatic 282, 3) := by decide +kernel
theorem dX11_sealFrom_27 : decode cX11_sealFrom 27 = .ok (.ifCond .eq 10, 3) := by decide +kernel
theorem dX11_sealFrom_30 : decode cX11_sealFrom 30 = .ok (.aload_n 3, 1) := by decide +kernel
theorem dX11_sealFrom_31 : decode cX11_sealFrom 31 = .ok (.iload 6, 2) := by decide +kernel
theorem dX11_sealFrom_33 : decode cX11_sealFrom 33 = .ok (.iaload, 1) := by decide +kernel
theorem dX11_sealFrom_34 : decode cX11_sealFrom 34 = .ok (.goto 14, 3) := by decide +kernel
theorem dX11_sealFrom_37 : decode cX11_sealFrom 37 = .ok (.iload_n 1, 1) := by decide +kernel
theorem dX11_sealFrom_38 : decode cX11_sealFrom 38 = .ok (.iload_n 2, 1) := by decide +kernel
theorem dX11_sealFrom_39 : decode cX11_sealFrom 39 = .ok (.iload 6, 2) := by decide +kernel
theorem dX11_sealFrom_41 : decode cX11_sealFrom 41 = .ok (.aload_n 3, 1) := by decide +kernel
theorem dX11_sealFrom_42 : decode cX11_sealFrom 42 = .ok (.iload 6, 2) := by decide +kernel
theorem dX11_sealFrom_44 : decode cX11_sealFrom 44 = .ok (.iaload, 1) := by decide +kernel
theorem dX11_sealFrom_45 : decode cX11_sealFrom 45 = .ok (.invokestatic 398, 3) := by decide +kernel
theorem dX11_sealFrom_48 : decode cX11_sealFrom 48 = .ok (.istore 7, 2) := by decide +kernel
theorem dX11_sealFrom_50 : decode cX11_sealFrom 50 = .ok (.iload 5, 2) := by decide +kernel
theorem dX11_sealFrom_52 : decode cX11_sealFrom 52 = .ok (.iload 7, 2) := by decide +kernel
theorem dX11_sealFrom_54 : decode cX11_sealFrom 54 = .ok (.invokestatic 395, 3) := by decide +kernel
theorem dX11_sealFrom_57 : decode cX11_sealFrom 57 = .ok (.istore 5, 2) := by decide +kernel
theorem dX11_sealFrom_59 : decode cX11_sealFrom 59 = .ok (.iinc 6 1, 3) := by decide +kernel
theorem dX11_sealFrom_62 : decode cX11_sealFrom 62 = .ok (.goto (-56), 3) := by decide +kernel
theorem dX11_sealFrom_65 : decode cX11_sealFrom 65 = .ok (.iload_n 0, 1) := by decide +kernel
theorem dX11_sealFrom_66 : decode cX11_sealFrom 66 = .ok (.iload 5, 2) := by decide +kernel
theorem dX11_sealFrom_68 : decode cX11_sealFrom 68 = .ok (.invokestatic 395, 3) := by decide +kernel
theorem dX11_sealFrom_71 : decode cX11_sealFrom 71 = .ok (.ireturn, 1) := by decide +kernel
theorem dJ6_bitCount_0f7a4_0 : decode cJ6_bitCount_0f7a4 0 = .ok (.iload_n 0, 1) := by decide +kernel
theorem dJ6_bitCount_0f7a4_1 : decode cJ6_bitCount_0f7a4 1 = .ok (.iload_n 0, 1) := by decide +kernel
theorem dJ6_bitCount_0f7a4_2 : decode cJ6_bitCount_0f7a4 2 = .ok (.iconst 1, 1) := by decide +kernel
theorem dJ6_bitCount_0f7a4_3 : decode cJ6_bitCount_0f7a4 3 = .ok (.iushr, 1) := by decide +kernel
theorem dJ6_bitCount_0f7a4_4 : decode cJ6_bitCount_0f7a4 4 = .ok (.ldc_w 265, 3) := by decide +kernel
theorem dJ6_bitCount_0f7a4_7 : decode cJ6_bitCount_0f7a4 7 = .ok (.iand, 1) := by decide +kernel
theorem dJ6_bitCount_0f7a4_8 : decode cJ6_bitCount_0f7a4 8 = .ok (.isub, 1) := by decide +kernel
theorem dJ6_bitCount_0f7a4_9 : decode cJ6_bitCount_0f7a4 9 = .ok (.istore_n 0, 1) := by decide +kernel
theorem dJ6_bitCount_0f7a4_10 : decode cJ6_bitCount_0f7a4 10 = .ok (.iload_n 0, 1) := by decide +kernel
theorem dJ6_bitCount_0f7a4_11 : decode cJ6_bitCount_0f7a4 11 = .ok (.ldc_w 266, 3) := by decide +kernel
theorem dJ6_bitCount_0f7a4_14 : decode cJ6_bitCount_0f7a4 14 = .ok (.iand, 1) := by decide +kernel
theorem dJ6_bitCount_0f7a4_15 : decode cJ6_bitCount_0f7a4 15 = .ok (.iload_n 0, 1) := by decide +kernel
theorem dJ6_bitCount_0f7a4_16 : decode cJ6_bitCount_0f7a4 16 = .ok (.iconst 2, 1) := by decide +kernel
theorem dJ6_bitCount_0f7a4_17 : decode cJ6_bitCount_0f7a4 17 = .ok (.iushr, 1) := by decide +kernel
theorem dJ6_bitCount_0f7a4_18 : decode cJ6_bitCount_0f7a4 18 = .ok (.ldc_w 266, 3) := by decide +kernel
theorem dJ6_bitCount_0f7a4_21 : decode cJ6_bitCount_0f7a4 21 = .ok (.iand, 1) := by decide +kernel
theorem dJ6_bitCount_0f7a4_22 : decode cJ6_bitCount_0f7a4 22 = .ok (.iadd, 1) := by decide +kernel
theorem dJ6_bitCount_0f7a4_23 : decode cJ6_bitCount_0f7a4 23 = .ok (.istore_n 0, 1) := by decide +kernel
theorem dJ6_bitCount_0f7a4_24 : decode cJ6_bitCount_0f7a4 24 = .ok (.iload_n 0, 1) := by decide +kernel
theorem dJ6_bitCount_0f7a4_25 : decode cJ6_bitCount_0f7a4 25 = .ok (.iload_n 0, 1) := by decide +kernel
theorem dJ6_bitCount_0f7a4_26 : decode cJ6_bitCount_0f7a4 26 = .ok (.iconst 4, 1) := by decide +kernel
theorem dJ6_bitCount_0f7a4_27 : decode cJ6_bitCount_0f7a4 27 = .ok (.iushr, 1) := by decide +kernel
theorem dJ6_bitCount_0f7a4_28 : decode cJ6_bitCount_0f7a4 28 = .ok (.iadd, 1) := by decide +kernel
theorem dJ6_bitCount_0f7a4_29 : decode cJ6_bitCount_0f7a4 29 = .ok (.ldc_w 267, 3) := by decide +kernel
theorem dJ6_bitCount_0f7a4_32 : decode cJ6_bitCount_0f7a4 32 = .ok (.iand, 1) := by decide +kernel
theorem dJ6_bitCount_0f7a4_33 : decode cJ6_bitCount_0f7a4 33 = .ok (.istore_n 0, 1) := by decide +kernel
theorem dJ6_bitCount_0f7a4_34 : decode cJ6_bitCount_0f7a4 34 = .ok (.iload_n 0, 1) := by decide +kernel
theorem dJ6_bitCount_0f7a4_35 : decode cJ6_bitCount_0f7a4 35 = .ok (.iload_n 0, 1) := by decide +kernel
theorem dJ6_bitCount_0f7a4_36 : decode cJ6_bitCount_0f7a4 36 = .ok (.bipush 8, 2) := by decide +kernel
theorem dJ6_bitCount_0f7a4_38 : decode cJ6_bitCount_0f7a4 38 = .ok (.iushr, 1) := by decide +kernel
theorem dJ6_bitCount_0f7a4_39 : decode cJ6_bitCount_0f7a4 39 = .ok (.iadd, 1) := by decide +kernel
theorem dJ6_bitCount_0f7a4_40 : decode cJ6_bitCount_0f7a4 40 = .ok (.istore_n 0, 1) := by decide +kernel
theorem dJ6_bitCount_0f7a4_41 : decode cJ6_bitCount_0f7a4 41 = .ok (.iload_n 0, 1) := by decide +kernel
theorem dJ6_bitCount_0f7a4_42 : decode cJ6_bitCount_0f7a4 42 = .ok (.iload_n 0, 1) := by decide +kernel
theorem dJ6_bitCount_0f7a4_43 : decode cJ6_bitCount_0f7a4 43 = .ok (.bipush 16, 2) := by decide +kernel
theorem dJ6_bitCount_0f7a4_45 : decode cJ6_bitCount_0f7a4 45 = .ok (.iushr, 1) := by decide +kernel
theorem dJ6_bitCount_0f7a4_46 : decode cJ6_bitCount_0f7a4 46 = .ok (.iadd, 1) := by decide +kernel
theorem dJ6_bitCount_0f7a4_47 : decode cJ6_bitCount_0f7a4 47 = .ok (.istore_n 0, 1) := by decide +kernel
theorem dJ6_bitCount_0f7a4_48 : decode cJ6_bitCount_0f7a4 48 = .ok (.iload_n 0, 1) := by decide +kernel
theorem dJ6_bitCount_0f7a4_49 : decode cJ6_bitCount_0f7a4 49 = .ok (.bipush 63, 2) := by decide +kernel
theorem dJ6_bitCount_0f7a4_51 : decode cJ6_bitCount_0f7a4 51 = .ok (.iand, 1) := by decide +kernel
theorem dJ6_bitCount_0f7a4_52 : decode cJ6_bitCount_0f7a4 52 = .ok (.ireturn, 1) := by decide +kernel
theorem dJxa1e45_init_da8c8_0 : decode cJxa1e45_init_da8c8 0 = .ok (.aload_n 0, 1) := by decide +kernel
theorem dJxa1e45_init_da8c8_1 : decode cJxa1e45_init_da8c8 1 = .ok (.invokespecial 1, 3) := by decide +kernel
theorem dJxa1e45_init_da8c8_4 : decode cJxa1e45_init_da8c8 4 = .ok (.return_, 1) := by decide +kernel
theorem dJxc12de_init_da8c8_0 : decode cJxc12de_init_da8c8 0 = .ok (.aload_n 0, 1) := by decide +kernel
theorem dJxc12de_init_da8c8_1 : decode cJxc12de_init_da8c8 1 = .ok (.invokespecial 1, 3) := by decide +kernel
theorem dJxc12de_init_da8c8_4 : decode cJxc12de_init_da8c8 4 = .ok (.aload_n 0, 1) := by decide +kernel
theorem dJxc12de_init_da8c8_5 : decode cJxc12de_init_da8c8 5 = .ok (.iconst 0, 1) := by decide +kernel
theorem dJxc12de_init_da8c8_6 : decode cJxc12de_init_da8c8 6 = .ok (.putfield 7, 3) := by decide +kernel
theorem dJxc12de_init_da8c8_9 : decode cJxc12de_init_da8c8 9 = .ok (.return_, 1) := by decide +kernel
theorem dJx4a65c_init_da8c8_0 : decode cJx4a65c_init_da8c8 0 = .ok (.aload_n 0, 1) := by decide +kernel
theorem dJx4a65c_init_da8c8_1 : decode cJx4a65c_init_da8c8 1 = .ok (.invokespecial 1, 3) := by decide +kernel
theorem dJx4a65c_init_da8c8_4 : decode cJx4a65c_init_da8c8 4 = .ok (.aload_n 0, 1) := by decide +kernel
theorem dJx4a65c_init_da8c8_5 : decode cJx4a65c_init_da8c8 5 = .ok (.getstatic 39, 3) := by decide +kernel
theorem dJx4a65c_init_da8c8_8 : decode cJx4a65c_init_da8c8 8 = .ok (.putfield 9, 3) := by decide +kernel
theorem dJx4a65c_init_da8c8_11 : decode cJx4a65c_init_da8c8 11 = .ok (.return_, 1) := by decide +kernel
theorem dJx4a65c_grow_92f84_0 : decode cJx4a65c_grow_92f84 0 = .ok (.aload_n 0, 1) := by decide +kernel
theorem dJx4a65c_grow_92f84_1 : decode cJx4a65c_grow_92f84 1 = .ok (.getfield 9, 3) := by decide +kernel
theorem dJx4a65c_grow_92f84_4 : decode cJx4a65c_grow_92f84 4 = .ok (.arraylength, 1) := by decide +kernel
theorem dJx4a65c_grow_92f84_5 : decode cJx4a65c_grow_92f84 5 = .ok (.istore_n 2, 1) := by decide +kernel
theorem dJx4a65c_grow_92f84_6 : decode cJx4a65c_grow_92f84 6 = .ok (.iload_n 2, 1) := by decide +kernel
theorem dJx4a65c_grow_92f84_7 : decode cJx4a65c_grow_92f84 7 = .ok (.ifCond .gt 13, 3) := by decide +kernel
theorem dJx4a65c_grow_92f84_10 : decode cJx4a65c_grow_92f84 10 = .ok (.aload_n 0, 1) := by decide +kernel
theorem dJx4a65c_grow_92f84_11 : decode cJx4a65c_grow_92f84 11 = .ok (.getfield 9, 3) := by decide +kernel
theorem dJx4a65c_grow_92f84_14 : decode cJx4a65c_grow_92f84 14 = .ok (.getstatic 39, 3) := by decide +kernel
theorem dJx4a65c_grow_92f84_17 : decode cJx4a65c_grow_92f84 17 = .ok (.if_acmp .eq 28, 3) := by decide +kernel
theorem dJx4a65c_grow_92f84_20 : decode cJx4a65c_grow_92f84 20 = .ok (.iload_n 2, 1) := by decide +kernel
theorem dJx4a65c_grow_92f84_21 : decode cJx4a65c_grow_92f84 21 = .ok (.iload_n 1, 1) := by decide +kernel
theorem dJx4a65c_grow_92f84_22 : decode cJx4a65c_grow_92f84 22 = .ok (.iload_n 2, 1) := by decide +kernel
theorem dJx4a65c_grow_92f84_23 : decode cJx4a65c_grow_92f84 23 = .ok (.isub, 1) := by decide +kernel
theorem dJx4a65c_grow_92f84_24 : decode cJx4a65c_grow_92f84 24 = .ok (.iload_n 2, 1) := by decide +kernel
theorem dJx4a65c_grow_92f84_25 : decode cJx4a65c_grow_92f84 25 = .ok (.iconst 1, 1) := by decide +kernel
theorem dJx4a65c_grow_92f84_26 : decode cJx4a65c_grow_92f84 26 = .ok (.ishr, 1) := by decide +kernel
theorem dJx4a65c_grow_92f84_27 : decode cJx4a65c_grow_92f84 27 = .ok (.invokestatic 73, 3) := by decide +kernel
theorem dJx4a65c_grow_92f84_30 : decode cJx4a65c_grow_92f84 30 = .ok (.istore_n 3, 1) := by decide +kernel
theorem dJx4a65c_grow_92f84_31 : decode cJx4a65c_grow_92f84 31 = .ok (.aload_n 0, 1) := by decide +kernel
theorem dJx4a65c_grow_92f84_32 : decode cJx4a65c_grow_92f84 32 = .ok (.aload_n 0, 1) := by decide +kernel
theorem dJx4a65c_grow_92f84_33 : decode cJx4a65c_grow_92f84 33 = .ok (.getfield 9, 3) := by decide +kernel
theorem dJx4a65c_grow_92f84_36 : decode cJx4a65c_grow_92f84 36 = .ok (.iload_n 3, 1) := by decide +kernel
theorem dJx4a65c_grow_92f84_37 : decode cJx4a65c_grow_92f84 37 = .ok (.invokestatic 66, 3) := by decide +kernel
theorem dJx4a65c_grow_92f84_40 : decode cJx4a65c_grow_92f84 40 = .ok (.dup_x1, 1) := by decide +kernel
theorem dJx4a65c_grow_92f84_41 : decode cJx4a65c_grow_92f84 41 = .ok (.putfield 9, 3) := by decide +kernel
theorem dJx4a65c_grow_92f84_44 : decode cJx4a65c_grow_92f84 44 = .ok (.areturn, 1) := by decide +kernel
theorem dJx4a65c_grow_92f84_45 : decode cJx4a65c_grow_92f84 45 = .ok (.aload_n 0, 1) := by decide +kernel
theorem dJx4a65c_grow_92f84_46 : decode cJx4a65c_grow_92f84 46 = .ok (.bipush 10, 2) := by decide +kernel
theorem dJx4a65c_grow_92f84_48 : decode cJx4a65c_grow_92f84 48 = .ok (.iload_n 1, 1) := by decide +kernel
theorem dJx4a65c_grow_92f84_49 : decode cJx4a65c_grow_92f84 49 = .ok (.invokestatic 79, 3) := by decide +kernel
theorem dJx4a65c_grow_92f84_52 : decode cJx4a65c_grow_92f84 52 = .ok (.anewarray 7, 3) := by decide +kernel
theorem dJx4a65c_grow_92f84_55 : decode cJx4a65c_grow_92f84 55 = .ok (.dup_x1, 1) := by decide +kernel
theorem dJx4a65c_grow_92f84_56 : decode cJx4a65c_grow_92f84 56 = .ok (.putfield 9, 3) := by decide +kernel
theorem dJx4a65c_grow_92f84_59 : decode cJx4a65c_grow_92f84 59 = .ok (.areturn, 1) := by decide +kernel
theorem dJx4a65c_grow_d5877_0 : decode cJx4a65c_grow_d5877 0 = .ok (.aload_n 0, 1) := by decide +kernel
theorem dJx4a65c_grow_d5877_1 : decode cJx4a65c_grow_d5877 1 = .ok (.aload_n 0, 1) := by decide +kernel
theorem dJx4a65c_grow_d5877_2 : decode cJx4a65c_grow_d5877 2 = .ok (.getfield 48, 3) := by decide +kernel
theorem dJx4a65c_grow_d5877_5 : decode cJx4a65c_grow_d5877 5 = .ok (.iconst 1, 1) := by decide +kernel
theorem dJx4a65c_grow_d5877_6 : decode cJx4a65c_grow_d5877 6 = .ok (.iadd, 1) := by decide +kernel
theorem dJx4a65c_grow_d5877_7 : decode cJx4a65c_grow_d5877 7 = .ok (.invokevirtual 69, 3) := by decide +kernel
theorem dJx4a65c_grow_d5877_10 : decode cJx4a65c_grow_d5877 10 = .ok (.areturn, 1) := by decide +kernel
theorem dJx4a65c_size_8abf5_0 : decode cJx4a65c_size_8abf5 0 = .ok (.aload_n 0, 1) := by decide +kernel
theorem dJx4a65c_size_8abf5_1 : decode cJx4a65c_size_8abf5 1 = .ok (.getfield 48, 3) := by decide +kernel
theorem dJx4a65c_size_8abf5_4 : decode cJx4a65c_size_8abf5 4 = .ok (.ireturn, 1) := by decide +kernel
theorem dJx4a65c_elementData_915e3_0 : decode cJx4a65c_elementData_915e3 0 = .ok (.aload_n 0, 1) := by decide +kernel
theorem dJx4a65c_elementData_915e3_1 : decode cJx4a65c_elementData_915e3 1 = .ok (.getfield 9, 3) := by decide +kernel
theorem dJx4a65c_elementData_915e3_4 : decode cJx4a65c_elementData_915e3 4 = .ok (.iload_n 1, 1) := by decide +kernel
theorem dJx4a65c_elementData_915e3_5 : decode cJx4a65c_elementData_915e3 5 = .ok (.aaload, 1) := by decide +kernel
theorem dJx4a65c_elementData_915e3_6 : decode cJx4a65c_elementData_915e3 6 = .ok (.areturn, 1) := by decide +kernel
theorem dJx4a65c_get_915e3_0 : decode cJx4a65c_get_915e3 0 = .ok (.iload_n 1, 1) := by decide +kernel
theorem dJx4a65c_get_915e3_1 : decode cJx4a65c_get_915e3 1 = .ok (.aload_n 0, 1) := by decide +kernel
theorem dJx4a65c_get_915e3_2 : decode cJx4a65c_get_915e3 2 = .ok (.getfield 48, 3) := by decide +kernel
theorem dJx4a65c_get_915e3_5 : decode cJx4a65c_get_915e3 5 = .ok (.invokestatic 118, 3) := by decide +kernel
theorem dJx4a65c_get_915e3_8 : decode cJx4a65c_get_915e3 8 = .ok (.pop, 1) := by decide +kernel
theorem dJx4a65c_get_915e3_9 : decode cJx4a65c_get_915e3 9 = .ok (.aload_n 0, 1) := by decide +kernel
theorem dJx4a65c_get_915e3_10 : decode cJx4a65c_get_915e3 10 = .ok (.iload_n 1, 1) := by decide +kernel
theorem dJx4a65c_get_915e3_11 : decode cJx4a65c_get_915e3 11 = .ok (.invokevirtual 123, 3) := by decide +kernel
theorem dJx4a65c_get_915e3_14 : decode cJx4a65c_get_915e3 14 = .ok (.areturn, 1) := by decide +kernel
theorem dJx4a65c_add_72be8_0 : decode cJx4a65c_add_72be8 0 = .ok (.iload_n 3, 1) := by decide +kernel
theorem dJx4a65c_add_72be8_1 : decode cJx4a65c_add_72be8 1 = .ok (.aload_n 2, 1) := by decide +kernel
theorem dJx4a65c_add_72be8_2 : decode cJx4a65c_add_72be8 2 = .ok (.arraylength, 1) := by decide +kernel
theorem dJx4a65c_add_72be8_3 : decode cJx4a65c_add_72be8 3 = .ok (.if_icmp .ne 8, 3) := by decide +kernel
theorem dJx4a65c_add_72be8_6 : decode cJx4a65c_add_72be8 6 = .ok (.aload_n 0, 1) := by decide +kernel
theorem dJx4a65c_add_72be8_7 : decode cJx4a65c_add_72be8 7 = .ok (.invokevirtual 129, 3) := by decide +kernel
theorem dJx4a65c_add_72be8_10 : decode cJx4a65c_add_72be8 10 = .ok (.astore_n 2, 1) := by decide +kernel
theorem dJx4a65c_add_72be8_11 : decode cJx4a65c_add_72be8 11 = .ok (.aload_n 2, 1) := by decide +kernel
theorem dJx4a65c_add_72be8_12 : decode cJx4a65c_add_72be8 12 = .ok (.iload_n 3, 1) := by decide +kernel
theorem dJx4a65c_add_72be8_13 : decode cJx4a65c_add_72be8 13 = .ok (.aload_n 1, 1) := by decide +kernel
theorem dJx4a65c_add_72be8_14 : decode cJx4a65c_add_72be8 14 = .ok (.aastore, 1) := by decide +kernel
theorem dJx4a65c_add_72be8_15 : decode cJx4a65c_add_72be8 15 = .ok (.aload_n 0, 1) := by decide +kernel
theorem dJx4a65c_add_72be8_16 : decode cJx4a65c_add_72be8 16 = .ok (.iload_n 3, 1) := by decide +kernel
theorem dJx4a65c_add_72be8_17 : decode cJx4a65c_add_72be8 17 = .ok (.iconst 1, 1) := by decide +kernel
theorem dJx4a65c_add_72be8_18 : decode cJx4a65c_add_72be8 18 = .ok (.iadd, 1) := by decide +kernel
theorem dJx4a65c_add_72be8_19 : decode cJx4a65c_add_72be8 19 = .ok (.putfield 48, 3) := by decide +kernel
theorem dJx4a65c_add_72be8_22 : decode cJx4a65c_add_72be8 22 = .ok (.return_, 1) := by decide +kernel
theorem dJx4a65c_add_9ea2d_0 : decode cJx4a65c_add_9ea2d 0 = .ok (.aload_n 0, 1) := by decide +kernel
theorem dJx4a65c_add_9ea2d_1 : decode cJx4a65c_add_9ea2d 1 = .ok (.dup, 1) := by decide +kernel
theorem dJx4a65c_add_9ea2d_2 : decode cJx4a65c_add_9ea2d 2 = .ok (.getfield 63, 3) := by decide +kernel
theorem dJx4a65c_add_9ea2d_5 : decode cJx4a65c_add_9ea2d 5 = .ok (.iconst 1, 1) := by decide +kernel
theorem dJx4a65c_add_9ea2d_6 : decode cJx4a65c_add_9ea2d 6 = .ok (.iadd, 1) := by decide +kernel
theorem dJx4a65c_add_9ea2d_7 : decode cJx4a65c_add_9ea2d 7 = .ok (.putfield 63, 3) := by decide +kernel
theorem dJx4a65c_add_9ea2d_10 : decode cJx4a65c_add_9ea2d 10 = .ok (.aload_n 0, 1) := by decide +kernel
theorem dJx4a65c_add_9ea2d_11 : decode cJx4a65c_add_9ea2d 11 = .ok (.aload_n 1, 1) := by decide +kernel
theorem dJx4a65c_add_9ea2d_12 : decode cJx4a65c_add_9ea2d 12 = .ok (.aload_n 0, 1) := by decide +kernel
theorem dJx4a65c_add_9ea2d_13 : decode cJx4a65c_add_9ea2d 13 = .ok (.getfield 9, 3) := by decide +kernel
theorem dJx4a65c_add_9ea2d_16 : decode cJx4a65c_add_9ea2d 16 = .ok (.aload_n 0, 1) := by decide +kernel
theorem dJx4a65c_add_9ea2d_17 : decode cJx4a65c_add_9ea2d 17 = .ok (.getfield 48, 3) := by decide +kernel
theorem dJx4a65c_add_9ea2d_20 : decode cJx4a65c_add_9ea2d 20 = .ok (.invokevirtual 131, 3) := by decide +kernel
theorem dJx4a65c_add_9ea2d_23 : decode cJx4a65c_add_9ea2d 23 = .ok (.iconst 1, 1) := by decide +kernel
theorem dJx4a65c_add_9ea2d_24 : decode cJx4a65c_add_9ea2d 24 = .ok (.ireturn, 1) := by decide +kernel
theorem dJ7_fill_53178_0 : decode cJ7_fill_53178 0 = .ok (.iconst 0, 1) := by decide +kernel
theorem dJ7_fill_53178_1 : decode cJ7_fill_53178 1 = .ok (.istore_n 2, 1) := by decide +kernel
theorem dJ7_fill_53178_2 : decode cJ7_fill_53178 2 = .ok (.aload_n 0, 1) := by decide +kernel
theorem dJ7_fill_53178_3 : decode cJ7_fill_53178 3 = .ok (.arraylength, 1) := by decide +kernel
theorem dJ7_fill_53178_4 : decode cJ7_fill_53178 4 = .ok (.istore_n 3, 1) := by decide +kernel
theorem dJ7_fill_53178_5 : decode cJ7_fill_53178 5 = .ok (.iload_n 2, 1) := by decide +kernel
theorem dJ7_fill_53178_6 : decode cJ7_fill_53178 6 = .ok (.iload_n 3, 1) := by decide +kernel
theorem dJ7_fill_53178_7 : decode cJ7_fill_53178 7 = .ok (.if_icmp .ge 13, 3) := by decide +kernel
theorem dJ7_fill_53178_10 : decode cJ7_fill_53178 10 = .ok (.aload_n 0, 1) := by decide +kernel
theorem dJ7_fill_53178_11 : decode cJ7_fill_53178 11 = .ok (.iload_n 2, 1) := by decide +kernel
theorem dJ7_fill_53178_12 : decode cJ7_fill_53178 12 = .ok (.iload_n 1, 1) := by decide +kernel
theorem dJ7_fill_53178_13 : decode cJ7_fill_53178 13 = .ok (.iastore, 1) := by decide +kernel
theorem dJ7_fill_53178_14 : decode cJ7_fill_53178 14 = .ok (.iinc 2 1, 3) := by decide +kernel
theorem dJ7_fill_53178_17 : decode cJ7_fill_53178 17 = .ok (.goto (-12), 3) := by decide +kernel
theorem dJ7_fill_53178_20 : decode cJ7_fill_53178 20 = .ok (.return_, 1) := by decide +kernel
theorem dJ7_copyOf_1904c_0 : decode cJ7_copyOf_1904c 0 = .ok (.aload_n 0, 1) := by decide +kernel
theorem dJ7_copyOf_1904c_1 : decode cJ7_copyOf_1904c 1 = .ok (.iload_n 1, 1) := by decide +kernel
theorem dJ7_copyOf_1904c_2 : decode cJ7_copyOf_1904c 2 = .ok (.aload_n 0, 1) := by decide +kernel
theorem dJ7_copyOf_1904c_3 : decode cJ7_copyOf_1904c 3 = .ok (.invokevirtual 86, 3) := by decide +kernel
theorem dJ7_copyOf_1904c_6 : decode cJ7_copyOf_1904c 6 = .ok (.invokestatic 300, 3) := by decide +kernel
theorem dJ7_copyOf_1904c_9 : decode cJ7_copyOf_1904c 9 = .ok (.areturn, 1) := by decide +kernel
theorem dJ7_copyOf_6403c_0 : decode cJ7_copyOf_6403c 0 = .ok (.aload_n 2, 1) := by decide +kernel
theorem dJ7_copyOf_6403c_1 : decode cJ7_copyOf_6403c 1 = .ok (.ldc 110, 2) := by decide +kernel
theorem dJ7_copyOf_6403c_3 : decode cJ7_copyOf_6403c 3 = .ok (.if_acmp .ne 10, 3) := by decide +kernel
theorem dJ7_copyOf_6403c_6 : decode cJ7_copyOf_6403c 6 = .ok (.iload_n 1, 1) := by decide +kernel
theorem dJ7_copyOf_6403c_7 : decode cJ7_copyOf_6403c 7 = .ok (.anewarray 2, 3) := by decide +kernel
theorem dJ7_copyOf_6403c_10 : decode cJ7_copyOf_6403c 10 = .ok (.goto 14, 3) := by decide +kernel
theorem dJ7_copyOf_6403c_13 : decode cJ7_copyOf_6403c 13 = .ok (.aload_n 2, 1) := by decide +kernel
theorem dJ7_copyOf_6403c_14 : decode cJ7_copyOf_6403c 14 = .ok (.invokevirtual 90, 3) := by decide +kernel
theorem dJ7_copyOf_6403c_17 : decode cJ7_copyOf_6403c 17 = .ok (.iload_n 1, 1) := by decide +kernel
theorem dJ7_copyOf_6403c_18 : decode cJ7_copyOf_6403c 18 = .ok (.invokestatic 95, 3) := by decide +kernel
theorem dJ7_copyOf_6403c_21 : decode cJ7_copyOf_6403c 21 = .ok (.checkcast 110, 3) := by decide +kernel
theorem dJ7_copyOf_6403c_24 : decode cJ7_copyOf_6403c 24 = .ok (.astore_n 3, 1) := by decide +kernel
theorem dJ7_copyOf_6403c_25 : decode cJ7_copyOf_6403c 25 = .ok (.aload_n 0, 1) := by decide +kernel
theorem dJ7_copyOf_6403c_26 : decode cJ7_copyOf_6403c 26 = .ok (.iconst 0, 1) := by decide +kernel
theorem dJ7_copyOf_6403c_27 : decode cJ7_copyOf_6403c 27 = .ok (.aload_n 3, 1) := by decide +kernel
theorem dJ7_copyOf_6403c_28 : decode cJ7_copyOf_6403c 28 = .ok (.iconst 0, 1) := by decide +kernel
theorem dJ7_copyOf_6403c_29 : decode cJ7_copyOf_6403c 29 = .ok (.aload_n 0, 1) := by decide +kernel
theorem dJ7_copyOf_6403c_30 : decode cJ7_copyOf_6403c 30 = .ok (.arraylength, 1) := by decide +kernel
theorem dJ7_copyOf_6403c_31 : decode cJ7_copyOf_6403c 31 = .ok (.iload_n 1, 1) := by decide +kernel
theorem dJ7_copyOf_6403c_32 : decode cJ7_copyOf_6403c 32 = .ok (.invokestatic 304, 3) := by decide +kernel
theorem dJ7_copyOf_6403c_35 : decode cJ7_copyOf_6403c 35 = .ok (.invokestatic 150, 3) := by decide +kernel
theorem dJ7_copyOf_6403c_38 : decode cJ7_copyOf_6403c 38 = .ok (.aload_n 3, 1) := by decide +kernel
theorem dJ7_copyOf_6403c_39 : decode cJ7_copyOf_6403c 39 = .ok (.areturn, 1) := by decide +kernel
theorem dJ15_checkIndex_7cf53_0 : decode cJ15_checkIndex_7cf53 0 = .ok (.iload_n 0, 1) := by decide +kernel
theorem dJ15_checkIndex_7cf53_1 : decode cJ15_checkIndex_7cf53 1 = .ok (.iload_n 1, 1) := by decide +kernel
theorem dJ15_checkIndex_7cf53_2 : decode cJ15_checkIndex_7cf53 2 = .ok (.aconst_null, 1) := by decide +kernel
theorem dJ15_checkIndex_7cf53_3 : decode cJ15_checkIndex_7cf53 3 = .ok (.invokestatic 105, 3) := by decide +kernel
theorem dJ15_checkIndex_7cf53_6 : decode cJ15_checkIndex_7cf53 6 = .ok (.ireturn, 1) := by decide +kernel
theorem dJ8_newLength_cabcc_0 : decode cJ8_newLength_cabcc 0 = .ok (.iload_n 0, 1) := by decide +kernel
theorem dJ8_newLength_cabcc_1 : decode cJ8_newLength_cabcc 1 = .ok (.iload_n 1, 1) := by decide +kernel
theorem dJ8_newLength_cabcc_2 : decode cJ8_newLength_cabcc 2 = .ok (.iload_n 2, 1) := by decide +kernel
theorem dJ8_newLength_cabcc_3 : decode cJ8_newLength_cabcc 3 = .ok (.invokestatic 194, 3) := by decide +kernel
theorem dJ8_newLength_cabcc_6 : decode cJ8_newLength_cabcc 6 = .ok (.iadd, 1) := by decide +kernel
theorem dJ8_newLength_cabcc_7 : decode cJ8_newLength_cabcc 7 = .ok (.istore_n 3, 1) := by decide +kernel
theorem dJ8_newLength_cabcc_8 : decode cJ8_newLength_cabcc 8 = .ok (.iconst 0, 1) := by decide +kernel
theorem dJ8_newLength_cabcc_9 : decode cJ8_newLength_cabcc 9 = .ok (.iload_n 3, 1) := by decide +kernel
theorem dJ8_newLength_cabcc_10 : decode cJ8_newLength_cabcc 10 = .ok (.if_icmp .ge 11, 3) := by decide +kernel
theorem dJ8_newLength_cabcc_13 : decode cJ8_newLength_cabcc 13 = .ok (.iload_n 3, 1) := by decide +kernel
theorem dJ8_newLength_cabcc_14 : decode cJ8_newLength_cabcc 14 = .ok (.ldc 200, 2) := by decide +kernel
theorem dJ8_newLength_cabcc_16 : decode cJ8_newLength_cabcc 16 = .ok (.if_icmp .gt 5, 3) := by decide +kernel
theorem dJ8_newLength_cabcc_19 : decode cJ8_newLength_cabcc 19 = .ok (.iload_n 3, 1) := by decide +kernel
theorem dJ8_newLength_cabcc_20 : decode cJ8_newLength_cabcc 20 = .ok (.ireturn, 1) := by decide +kernel
theorem dJ8_newLength_cabcc_21 : decode cJ8_newLength_cabcc 21 = .ok (.iload_n 0, 1) := by decide +kernel
theorem dJ8_newLength_cabcc_22 : decode cJ8_newLength_cabcc 22 = .ok (.iload_n 1, 1) := by decide +kernel
theorem dJ8_newLength_cabcc_23 : decode cJ8_newLength_cabcc 23 = .ok (.invokestatic 201, 3) := by decide +kernel
theorem dJ8_newLength_cabcc_26 : decode cJ8_newLength_cabcc 26 = .ok (.ireturn, 1) := by decide +kernel
theorem dJ8_hugeLength_7cf53_0 : decode cJ8_hugeLength_7cf53 0 = .ok (.iload_n 0, 1) := by decide +kernel
theorem dJ8_hugeLength_7cf53_1 : decode cJ8_hugeLength_7cf53 1 = .ok (.iload_n 1, 1) := by decide +kernel
theorem dJ8_hugeLength_7cf53_2 : decode cJ8_hugeLength_7cf53 2 = .ok (.iadd, 1) := by decide +kernel
theorem dJ8_hugeLength_7cf53_3 : decode cJ8_hugeLength_7cf53 3 = .ok (.istore_n 2, 1) := by decide +kernel
theorem dJ8_hugeLength_7cf53_4 : decode cJ8_hugeLength_7cf53 4 = .ok (.iload_n 2, 1) := by decide +kernel
theorem dJ8_hugeLength_7cf53_5 : decode cJ8_hugeLength_7cf53 5 = .ok (.ifCond .ge 44, 3) := by decide +kernel
theorem dJ8_hugeLength_7cf53_8 : decode cJ8_hugeLength_7cf53 8 = .ok (.new 204, 3) := by decide +kernel
theorem dJ8_hugeLength_7cf53_11 : decode cJ8_hugeLength_7cf53 11 = .ok (.dup, 1) := by decide +kernel
theorem dJ8_hugeLength_7cf53_12 : decode cJ8_hugeLength_7cf53 12 = .ok (.new 89, 3) := by decide +kernel
theorem dJ8_hugeLength_7cf53_15 : decode cJ8_hugeLength_7cf53 15 = .ok (.dup, 1) := by decide +kernel
theorem dJ8_hugeLength_7cf53_16 : decode cJ8_hugeLength_7cf53 16 = .ok (.invokespecial 91, 3) := by decide +kernel
theorem dJ8_hugeLength_7cf53_19 : decode cJ8_hugeLength_7cf53 19 = .ok (.ldc 206, 2) := by decide +kernel
theorem dJ8_hugeLength_7cf53_21 : decode cJ8_hugeLength_7cf53 21 = .ok (.invokevirtual 94, 3) := by decide +kernel
theorem dJ8_hugeLength_7cf53_24 : decode cJ8_hugeLength_7cf53 24 = .ok (.iload_n 0, 1) := by decide +kernel
theorem dJ8_hugeLength_7cf53_25 : decode cJ8_hugeLength_7cf53 25 = .ok (.invokevirtual 98, 3) := by decide +kernel
theorem dJ8_hugeLength_7cf53_28 : decode cJ8_hugeLength_7cf53 28 = .ok (.ldc 208, 2) := by decide +kernel
theorem dJ8_hugeLength_7cf53_30 : decode cJ8_hugeLength_7cf53 30 = .ok (.invokevirtual 94, 3) := by decide +kernel
theorem dJ8_hugeLength_7cf53_33 : decode cJ8_hugeLength_7cf53 33 = .ok (.iload_n 1, 1) := by decide +kernel
theorem dJ8_hugeLength_7cf53_34 : decode cJ8_hugeLength_7cf53 34 = .ok (.invokevirtual 98, 3) := by decide +kernel
theorem dJ8_hugeLength_7cf53_37 : decode cJ8_hugeLength_7cf53 37 = .ok (.ldc 210, 2) := by decide +kernel
theorem dJ8_hugeLength_7cf53_39 : decode cJ8_hugeLength_7cf53 39 = .ok (.invokevirtual 94, 3) := by decide +kernel
theorem dJ8_hugeLength_7cf53_42 : decode cJ8_hugeLength_7cf53 42 = .ok (.invokevirtual 101, 3) := by decide +kernel
theorem dJ8_hugeLength_7cf53_45 : decode cJ8_hugeLength_7cf53 45 = .ok (.invokespecial 212, 3) := by decide +kernel
theorem dJ8_hugeLength_7cf53_48 : decode cJ8_hugeLength_7cf53 48 = .ok (.athrow, 1) := by decide +kernel
theorem dJ8_hugeLength_7cf53_49 : decode cJ8_hugeLength_7cf53 49 = .ok (.iload_n 2, 1) := by decide +kernel
theorem dJ8_hugeLength_7cf53_50 : decode cJ8_hugeLength_7cf53 50 = .ok (.ldc 200, 2) := by decide +kernel
theorem dJ8_hugeLength_7cf53_52 : decode cJ8_hugeLength_7cf53 52 = .ok (.if_icmp .gt 6, 3) := by decide +kernel
theorem dJ8_hugeLength_7cf53_55 : decode cJ8_hugeLength_7cf53 55 = .ok (.ldc 200, 2) := by decide +kernel
theorem dJ8_hugeLength_7cf53_57 : decode cJ8_hugeLength_7cf53 57 = .ok (.ireturn, 1) := by decide +kernel
theorem dJ8_hugeLength_7cf53_58 : decode cJ8_hugeLength_7cf53 58 = .ok (.iload_n 2, 1) := by decide +kernel
theorem dJ8_hugeLength_7cf53_59 : decode cJ8_hugeLength_7cf53 59 = .ok (.ireturn, 1) := by decide +kernel
theorem dJ3_checkIndex_8e157_0 : decode cJ3_checkIndex_8e157 0 = .ok (.iload_n 0, 1) := by decide +kernel
theorem dJ3_checkIndex_8e157_1 : decode cJ3_checkIndex_8e157 1 = .ok (.ifCond .lt 8, 3) := by decide +kernel
theorem dJ3_checkIndex_8e157_4 : decode cJ3_checkIndex_8e157 4 = .ok (.iload_n 0, 1) := by decide +kernel
theorem dJ3_checkIndex_8e157_5 : decode cJ3_checkIndex_8e157 5 = .ok (.iload_n 1, 1) := by decide +kernel
theorem dJ3_checkIndex_8e157_6 : decode cJ3_checkIndex_8e157 6 = .ok (.if_icmp .lt 10, 3) := by decide +kernel
theorem dJ3_checkIndex_8e157_9 : decode cJ3_checkIndex_8e157 9 = .ok (.aload_n 2, 1) := by decide +kernel
theorem dJ3_checkIndex_8e157_10 : decode cJ3_checkIndex_8e157 10 = .ok (.iload_n 0, 1) := by decide +kernel
theorem dJ3_checkIndex_8e157_11 : decode cJ3_checkIndex_8e157 11 = .ok (.iload_n 1, 1) := by decide +kernel
theorem dJ3_checkIndex_8e157_12 : decode cJ3_checkIndex_8e157 12 = .ok (.invokestatic 95, 3) := by decide +kernel
theorem dJ3_checkIndex_8e157_15 : decode cJ3_checkIndex_8e157 15 = .ok (.athrow, 1) := by decide +kernel
theorem dJ3_checkIndex_8e157_16 : decode cJ3_checkIndex_8e157 16 = .ok (.iload_n 0, 1) := by decide +kernel
theorem dJ3_checkIndex_8e157_17 : decode cJ3_checkIndex_8e157 17 = .ok (.ireturn, 1) := by decide +kernel
theorem dL_cell_0 : decode cL_cell 0 = .ok (.iload_n 1, 1) := by decide +kernel
theorem dL_cell_1 : decode cL_cell 1 = .ok (.aload_n 0, 1) := by decide +kernel
theorem dL_cell_2 : decode cL_cell 2 = .ok (.arraylength, 1) := by decide +kernel
theorem dL_cell_3 : decode cL_cell 3 = .ok (.if_icmp .ge 9, 3) := by decide +kernel
theorem dL_cell_6 : decode cL_cell 6 = .ok (.aload_n 0, 1) := by decide +kernel
theorem dL_cell_7 : decode cL_cell 7 = .ok (.iload_n 1, 1) := by decide +kernel
theorem dL_cell_8 : decode cL_cell 8 = .ok (.iaload, 1) := by decide +kernel
theorem dL_cell_9 : decode cL_cell 9 = .ok (.goto 18, 3) := by decide +kernel
theorem dL_cell_12 : decode cL_cell 12 = .ok (.sipush 7919, 3) := by decide +kernel
theorem dL_cell_15 : decode cL_cell 15 = .ok (.iload_n 1, 1) := by decide +kernel
theorem dL_cell_16 : decode cL_cell 16 = .ok (.sipush 953, 3) := by decide +kernel
theorem dL_cell_19 : decode cL_cell 19 = .ok (.iadd, 1) := by decide +kernel
theorem dL_cell_20 : decode cL_cell 20 = .ok (.imul, 1) := by decide +kernel
theorem dL_cell_21 : decode cL_cell 21 = .ok (.iload_n 1, 1) := by decide +kernel
theorem dL_cell_22 : decode cL_cell 22 = .ok (.sipush 3371, 3) := by decide +kernel
theorem dL_cell_25 : decode cL_cell 25 = .ok (.iadd, 1) := by decide +kernel
theorem dL_cell_26 : decode cL_cell 26 = .ok (.imul, 1) := by decide +kernel
theorem dL_cell_27 : decode cL_cell 27 = .ok (.ireturn, 1) := by decide +kernel
theorem dL_low_0 : decode cL_low 0 = .ok (.iload_n 0, 1) := by decide +kernel
theorem dL_low_1 : decode cL_low 1 = .ok (.ldc 7, 2) := by decide +kernel
theorem dL_low_3 : decode cL_low 3 = .ok (.iand, 1) := by decide +kernel
theorem dL_low_4 : decode cL_low 4 = .ok (.iload_n 1, 1) := by decide +kernel
theorem dL_low_5 : decode cL_low 5 = .ok (.irem, 1) := by decide +kernel
theorem dL_low_6 : decode cL_low 6 = .ok (.ireturn, 1) := by decide +kernel
theorem dL_does_0 : decode cL_does 0 = .ok (.iload_n 1, 1) := by decide +kernel
theorem dL_does_1 : decode cL_does 1 = .ok (.ifCond .ne 12, 3) := by decide +kernel
theorem dL_does_4 : decode cL_does 4 = .ok (.aload_n 0, 1) := by decide +kernel
theorem dL_does_5 : decode cL_does 5 = .ok (.iload_n 2, 1) := by decide +kernel
theorem dL_does_6 : decode cL_does 6 = .ok (.iload_n 3, 1) := by decide +kernel
theorem dL_does_7 : decode cL_does 7 = .ok (.invokevirtual 8, 3) := by decide +kernel
theorem dL_does_10 : decode cL_does 10 = .ok (.goto 210, 3) := by decide +kernel
theorem dL_does_13 : decode cL_does 13 = .ok (.iload_n 1, 1) := by decide +kernel
theorem dL_does_14 : decode cL_does 14 = .ok (.iconst 1, 1) := by decide +kernel
theorem dL_does_15 : decode cL_does 15 = .ok (.if_icmp .ne 12, 3) := by decide +kernel
theorem dL_does_18 : decode cL_does 18 = .ok (.aload_n 0, 1) := by decide +kernel
theorem dL_does_19 : decode cL_does 19 = .ok (.iload_n 2, 1) := by decide +kernel
theorem dL_does_20 : decode cL_does 20 = .ok (.iload_n 3, 1) := by decide +kernel
theorem dL_does_21 : decode cL_does 21 = .ok (.invokevirtual 14, 3) := by decide +kernel
theorem dL_does_24 : decode cL_does 24 = .ok (.goto 196, 3) := by decide +kernel
theorem dL_does_27 : decode cL_does 27 = .ok (.iload_n 1, 1) := by decide +kernel
theorem dL_does_28 : decode cL_does 28 = .ok (.iconst 2, 1) := by decide +kernel
theorem dL_does_29 : decode cL_does 29 = .ok (.if_icmp .ne 11, 3) := by decide +kernel
theorem dL_does_32 : decode cL_does 32 = .ok (.aload_n 0, 1) := by decide +kernel
theorem dL_does_33 : decode cL_does 33 = .ok (.iload_n 2, 1) := by decide +kernel
theorem dL_does_34 : decode cL_does 34 = .ok (.invokevirtual 17, 3) := by decide +kernel
theorem dL_does_37 : decode cL_does 37 = .ok (.goto 183, 3) := by decide +kernel
theorem dL_does_40 : decode cL_does 40 = .ok (.iload_n 1, 1) := by decide +kernel
theorem dL_does_41 : decode cL_does 41 = .ok (.iconst 3, 1) := by decide +kernel
theorem dL_does_42 : decode cL_does 42 = .ok (.if_icmp .ne 11, 3) := by decide +kernel
theorem dL_does_45 : decode cL_does 45 = .ok (.aload_n 0, 1) := by decide +kernel
theorem dL_does_46 : decode cL_does 46 = .ok (.iload_n 2, 1) := by decide +kernel
theorem dL_does_47 : decode cL_does 47 = .ok (.invokevirtual 21, 3) := by decide +kernel
theorem dL_does_50 : decode cL_does 50 = .ok (.goto 170, 3) := by decide +kernel
theorem dL_does_53 : decode cL_does 53 = .ok (.iload_n 1, 1) := by decide +kernel
theorem dL_does_54 : decode cL_does 54 = .ok (.iconst 4, 1) := by decide +kernel
theorem dL_does_55 : decode cL_does 55 = .ok (.if_icmp .ne 14, 3) := by decide +kernel
theorem dL_does_58 : decode cL_does 58 = .ok (.aload_n 0, 1) := by decide +kernel
theorem dL_does_59 : decode cL_does 59 = .ok (.iload_n 2, 1) := by decide +kernel
theorem dL_does_60 : decode cL_does 60 = .ok (.iload_n 3, 1) := by decide +kernel
theorem dL_does_61 : decode cL_does 61 = .ok (.iload 4, 2) := by decide +kernel
theorem dL_does_63 : decode cL_does 63 = .ok (.invokevirtual 24, 3) := by decide +kernel
theorem dL_does_66 : decode cL_does 66 = .ok (.goto 154, 3) := by decide +kernel
theorem dL_does_69 : decode cL_does 69 = .ok (.iload_n 1, 1) := by decide +kernel
theorem dL_does_70 : decode cL_does 70 = .ok (.iconst 5, 1) := by decide +kernel
theorem dL_does_71 : decode cL_does 71 = .ok (.if_icmp .ne 14, 3) := by decide +kernel
theorem dL_does_74 : decode cL_does 74 = .ok (.aload_n 0, 1) := by decide +kernel
theorem dL_does_75 : decode cL_does 75 = .ok (.iload_n 2, 1) := by decide +kernel
theorem dL_does_76 : decode cL_does 76 = .ok (.iload_n 3, 1) := by decide +kernel
theorem dL_does_77 : decode cL_does 77 = .ok (.iload 4, 2) := by decide +kernel
theorem dL_does_79 : decode cL_does 79 = .ok (.invokevirtual 28, 3) := by decide +kernel
theorem dL_does_82 : decode cL_does 82 = .ok (.goto 138, 3) := by decide +kernel
theorem dL_does_85 : decode cL_does 85 = .ok (.iload_n 1, 1) := by decide +kernel
theorem dL_does_86 : decode cL_does 86 = .ok (.bipush 6, 2) := by decide +kernel
theorem dL_does_88 : decode cL_does 88 = .ok (.if_icmp .ne 14, 3) := by decide +kernel
theorem dL_does_91 : decode cL_does 91 = .ok (.aload_n 0, 1) := by decide +kernel
theorem dL_does_92 : decode cL_does 92 = .ok (.iload_n 2, 1) := by decide +kernel
theorem dL_does_93 : decode cL_does 93 = .ok (.iload_n 3, 1) := by decide +kernel
theorem dL_does_94 : decode cL_does 94 = .ok (.iload 4, 2) := by decide +kernel
theorem dL_does_96 : decode cL_does 96 = .ok (.invokevirtual 31, 3) := by decide +kernel
theorem dL_does_99 : decode cL_does 99 = .ok (.goto 121, 3) := by decide +kernel
theorem dL_does_102 : decode cL_does 102 = .ok (.iload_n 1, 1) := by decide +kernel
theorem dL_does_103 : decode cL_does 103 = .ok (.bipush 7, 2) := by decide +kernel
theorem dL_does_105 : decode cL_does 105 = .ok (.if_icmp .ne 14, 3) := by decide +kernel
theorem dL_does_108 : decode cL_does 108 = .ok (.aload_n 0, 1) := by decide +kernel
theorem dL_does_109 : decode cL_does 109 = .ok (.iload_n 2, 1) := by decide +kernel
theorem dL_does_110 : decode cL_does 110 = .ok (.iload_n 3, 1) := by decide +kernel
theorem dL_does_111 : decode cL_does 111 = .ok (.iload 4, 2) := by decide +kernel
theorem dL_does_113 : decode cL_does 113 = .ok (.invokevirtual 34, 3) := by decide +kernel
theorem dL_does_116 : decode cL_does 116 = .ok (.goto 104, 3) := by decide +kernel
theorem dL_does_119 : decode cL_does 119 = .ok (.iload_n 1, 1) := by decide +kernel
theorem dL_does_120 : decode cL_does 120 = .ok (.bipush 8, 2) := by decide +kernel
theorem dL_does_122 : decode cL_does 122 = .ok (.if_icmp .ne 16, 3) := by decide +kernel
theorem dL_does_125 : decode cL_does 125 = .ok (.aload_n 0, 1) := by decide +kernel
theorem dL_does_126 : decode cL_does 126 = .ok (.iload_n 2, 1) := by decide +kernel
theorem dL_does_127 : decode cL_does 127 = .ok (.iload_n 3, 1) := by decide +kernel
theorem dL_does_128 : decode cL_does 128 = .ok (.iload 4, 2) := by decide +kernel
theorem dL_does_130 : decode cL_does 130 = .ok (.iload 5, 2) := by decide +kernel
theorem dL_does_132 : decode cL_does 132 = .ok (.invokevirtual 37, 3) := by decide +kernel
theorem dL_does_135 : decode cL_does 135 = .ok (.goto 85, 3) := by decide +kernel
theorem dL_does_138 : decode cL_does 138 = .ok (.iload_n 1, 1) := by decide +kernel
theorem dL_does_139 : decode cL_does 139 = .ok (.bipush 9, 2) := by decide +kernel
theorem dL_does_141 : decode cL_does 141 = .ok (.if_icmp .ne 14, 3) := by decide +kernel
theorem dL_does_144 : decode cL_does 144 = .ok (.aload_n 0, 1) := by decide +kernel
theorem dL_does_145 : decode cL_does 145 = .ok (.iload_n 2, 1) := by decide +kernel
theorem dL_does_146 : decode cL_does 146 = .ok (.iload_n 3, 1) := by decide +kernel
theorem dL_does_147 : decode cL_does 147 = .ok (.iload 4, 2) := by decide +kernel
theorem dL_does_149 : decode cL_does 149 = .ok (.invokevirtual 41, 3) := by decide +kernel
theorem dL_does_152 : decode cL_does 152 = .ok (.goto 68, 3) := by decide +kernel
theorem dL_does_155 : decode cL_does 155 = .ok (.iload_n 1, 1) := by decide +kernel
theorem dL_does_156 : decode cL_does 156 = .ok (.bipush 10, 2) := by decide +kernel
theorem dL_does_158 : decode cL_does 158 = .ok (.if_icmp .ne 16, 3) := by decide +kernel
theorem dL_does_161 : decode cL_does 161 = .ok (.aload_n 0, 1) := by decide +kernel
theorem dL_does_162 : decode cL_does 162 = .ok (.iload_n 2, 1) := by decide +kernel
theorem dL_does_163 : decode cL_does 163 = .ok (.iload_n 3, 1) := by decide +kernel
theorem dL_does_164 : decode cL_does 164 = .ok (.iload 4, 2) := by decide +kernel
theorem dL_does_166 : decode cL_does 166 = .ok (.iload 5, 2) := by decide +kernel
theorem dL_does_168 : decode cL_does 168 = .ok (.invokevirtual 44, 3) := by decide +kernel
theorem dL_does_171 : decode cL_does 171 = .ok (.goto 49, 3) := by decide +kernel
theorem dL_does_174 : decode cL_does 174 = .ok (.iload_n 1, 1) := by decide +kernel
theorem dL_does_175 : decode cL_does 175 = .ok (.bipush 11, 2) := by decide +kernel
theorem dL_does_177 : decode cL_does 177 = .ok (.if_icmp .ne 16, 3) := by decide +kernel
theorem dL_does_180 : decode cL_does 180 = .ok (.aload_n 0, 1) := by decide +kernel
theorem dL_does_181 : decode cL_does 181 = .ok (.iload_n 2, 1) := by decide +kernel
theorem dL_does_182 : decode cL_does 182 = .ok (.iload_n 3, 1) := by decide +kernel
theorem dL_does_183 : decode cL_does 183 = .ok (.iload 4, 2) := by decide +kernel
theorem dL_does_185 : decode cL_does 185 = .ok (.iload 5, 2) := by decide +kernel
theorem dL_does_187 : decode cL_does 187 = .ok (.invokevirtual 47, 3) := by decide +kernel
theorem dL_does_190 : decode cL_does 190 = .ok (.goto 30, 3) := by decide +kernel
theorem dL_does_193 : decode cL_does 193 = .ok (.iload_n 1, 1) := by decide +kernel
theorem dL_does_194 : decode cL_does 194 = .ok (.bipush 12, 2) := by decide +kernel
theorem dL_does_196 : decode cL_does 196 = .ok (.if_icmp .ne 16, 3) := by decide +kernel
theorem dL_does_199 : decode cL_does 199 = .ok (.aload_n 0, 1) := by decide +kernel
theorem dL_does_200 : decode cL_does 200 = .ok (.iload_n 2, 1) := by decide +kernel
theorem dL_does_201 : decode cL_does 201 = .ok (.iload_n 3, 1) := by decide +kernel
theorem dL_does_202 : decode cL_does 202 = .ok (.iload 4, 2) := by decide +kernel
theorem dL_does_204 : decode cL_does 204 = .ok (.iload 5, 2) := by decide +kernel
theorem dL_does_206 : decode cL_does 206 = .ok (.invokevirtual 50, 3) := by decide +kernel
theorem dL_does_209 : decode cL_does 209 = .ok (.goto 11, 3) := by decide +kernel
theorem dL_does_212 : decode cL_does 212 = .ok (.aload_n 0, 1) := by decide +kernel
theorem dL_does_213 : decode cL_does 213 = .ok (.iload_n 2, 1) := by decide +kernel
theorem dL_does_214 : decode cL_does 214 = .ok (.iload_n 3, 1) := by decide +kernel
theorem dL_does_215 : decode cL_does 215 = .ok (.iload 4, 2) := by decide +kernel
theorem dL_does_217 : decode cL_does 217 = .ok (.invokevirtual 53, 3) := by decide +kernel
theorem dL_does_220 : decode cL_does 220 = .ok (.ireturn, 1) := by decide +kernel
theorem dL_does_221 : decode cL_does 221 = .ok (.astore 6, 2) := by decide +kernel
theorem dL_does_223 : decode cL_does 223 = .ok (.ldc 58, 2) := by decide +kernel
theorem dL_does_225 : decode cL_does 225 = .ok (.ireturn, 1) := by decide +kernel
theorem dL_does_226 : decode cL_does 226 = .ok (.astore 6, 2) := by decide +kernel
theorem dL_does_228 : decode cL_does 228 = .ok (.ldc 58, 2) := by decide +kernel
theorem dL_does_230 : decode cL_does 230 = .ok (.ireturn, 1) := by decide +kernel
theorem dL_does_231 : decode cL_does 231 = .ok (.astore 6, 2) := by decide +kernel
theorem dL_does_233 : decode cL_does 233 = .ok (.ldc 58, 2) := by decide +kernel
theorem dL_does_235 : decode cL_does 235 = .ok (.ireturn, 1) := by decide +kernel
theorem dL_tell_0 : decode cL_tell 0 = .ok (.aload_n 0, 1) := by decide +kernel
theorem dL_tell_1 : decode cL_tell 1 = .ok (.iload_n 1, 1) := by decide +kernel
theorem dL_tell_2 : decode cL_tell 2 = .ok (.iload_n 2, 1) := by decide +kernel
theorem dL_tell_3 : decode cL_tell 3 = .ok (.iload_n 3, 1) := by decide +kernel
theorem dL_tell_4 : decode cL_tell 4 = .ok (.iload 4, 2) := by decide +kernel
theorem dL_tell_6 : decode cL_tell 6 = .ok (.iload 5, 2) := by decide +kernel
theorem dL_tell_8 : decode cL_tell 8 = .ok (.iload 6, 2) := by decide +kernel
theorem dL_tell_10 : decode cL_tell 10 = .ok (.invokestatic 63, 3) := by decide +kernel
theorem dL_tell_13 : decode cL_tell 13 = .ok (.ireturn, 1) := by decide +kernel
theorem dL_tell_14 : decode cL_tell 14 = .ok (.astore 7, 2) := by decide +kernel
theorem dL_tell_16 : decode cL_tell 16 = .ok (.ldc 58, 2) := by decide +kernel
theorem dL_tell_18 : decode cL_tell 18 = .ok (.ireturn, 1) := by decide +kernel
theorem dL_tells_0 : decode cL_tells 0 = .ok (.iload_n 1, 1) := by decide +kernel
theorem dL_tells_1 : decode cL_tells 1 = .ok (.ifCond .eq 18, 3) := by decide +kernel
theorem dL_tells_4 : decode cL_tells 4 = .ok (.aload_n 0, 1) := by decide +kernel
theorem dL_tells_5 : decode cL_tells 5 = .ok (.iload_n 2, 1) := by decide +kernel
theorem dL_tells_6 : decode cL_tells 6 = .ok (.iload_n 3, 1) := by decide +kernel
theorem dL_tells_7 : decode cL_tells 7 = .ok (.iload 4, 2) := by decide +kernel
theorem dL_tells_9 : decode cL_tells 9 = .ok (.iload 5, 2) := by decide +kernel
theorem dL_tells_11 : decode cL_tells 11 = .ok (.iload 6, 2) := by decide +kernel
theorem dL_tells_13 : decode cL_tells 13 = .ok (.invokevirtual 69, 3) := by decide +kernel
theorem dL_tells_16 : decode cL_tells 16 = .ok (.goto 9, 3) := by decide +kernel
theorem dL_tells_19 : decode cL_tells 19 = .ok (.aload_n 0, 1) := by decide +kernel
theorem dL_tells_20 : decode cL_tells 20 = .ok (.iload_n 2, 1) := by decide +kernel
theorem dL_tells_21 : decode cL_tells 21 = .ok (.iload_n 3, 1) := by decide +kernel
theorem dL_tells_22 : decode cL_tells 22 = .ok (.invokevirtual 73, 3) := by decide +kernel
theorem dL_tells_25 : decode cL_tells 25 = .ok (.iconst 0, 1) := by decide +kernel
theorem dL_tells_26 : decode cL_tells 26 = .ok (.ireturn, 1) := by decide +kernel
theorem dL_looks_0 : decode cL_looks 0 = .ok (.iload_n 1, 1) := by decide +kernel
theorem dL_looks_1 : decode cL_looks 1 = .ok (.ifCond .ne 11, 3) := by decide +kernel
theorem dL_looks_4 : decode cL_looks 4 = .ok (.aload_n 0, 1) := by decide +kernel
theorem dL_looks_5 : decode cL_looks 5 = .ok (.iload_n 2, 1) := by decide +kernel
theorem dL_looks_6 : decode cL_looks 6 = .ok (.invokevirtual 77, 3) := by decide +kernel
theorem dL_looks_9 : decode cL_looks 9 = .ok (.goto 56, 3) := by decide +kernel
theorem dL_looks_12 : decode cL_looks 12 = .ok (.iload_n 1, 1) := by decide +kernel
theorem dL_looks_13 : decode cL_looks 13 = .ok (.iconst 1, 1) := by decide +kernel
theorem dL_looks_14 : decode cL_looks 14 = .ok (.if_icmp .ne 12, 3) := by decide +kernel
theorem dL_looks_17 : decode cL_looks 17 = .ok (.aload_n 0, 1) := by decide +kernel
theorem dL_looks_18 : decode cL_looks 18 = .ok (.iload_n 2, 1) := by decide +kernel
theorem dL_looks_19 : decode cL_looks 19 = .ok (.iload_n 3, 1) := by decide +kernel
theorem dL_looks_20 : decode cL_looks 20 = .ok (.invokevirtual 80, 3) := by decide +kernel
theorem dL_looks_23 : decode cL_looks 23 = .ok (.goto 42, 3) := by decide +kernel
theorem dL_looks_26 : decode cL_looks 26 = .ok (.iload_n 1, 1) := by decide +kernel
theorem dL_looks_27 : decode cL_looks 27 = .ok (.iconst 2, 1) := by decide +kernel
theorem dL_looks_28 : decode cL_looks 28 = .ok (.if_icmp .ne 11, 3) := by decide +kernel
theorem dL_looks_31 : decode cL_looks 31 = .ok (.aload_n 0, 1) := by decide +kernel
theorem dL_looks_32 : decode cL_looks 32 = .ok (.iload_n 2, 1) := by decide +kernel
theorem dL_looks_33 : decode cL_looks 33 = .ok (.invokevirtual 83, 3) := by decide +kernel
theorem dL_looks_36 : decode cL_looks 36 = .ok (.goto 29, 3) := by decide +kernel
theorem dL_looks_39 : decode cL_looks 39 = .ok (.iload_n 1, 1) := by decide +kernel
theorem dL_looks_40 : decode cL_looks 40 = .ok (.iconst 3, 1) := by decide +kernel
theorem dL_looks_41 : decode cL_looks 41 = .ok (.if_icmp .ne 11, 3) := by decide +kernel
theorem dL_looks_44 : decode cL_looks 44 = .ok (.aload_n 0, 1) := by decide +kernel
theorem dL_looks_45 : decode cL_looks 45 = .ok (.iload_n 2, 1) := by decide +kernel
theorem dL_looks_46 : decode cL_looks 46 = .ok (.invokevirtual 86, 3) := by decide +kernel
theorem dL_looks_49 : decode cL_looks 49 = .ok (.goto 16, 3) := by decide +kernel
theorem dL_looks_52 : decode cL_looks 52 = .ok (.aload_n 0, 1) := by decide +kernel
theorem dL_looks_53 : decode cL_looks 53 = .ok (.iload_n 2, 1) := by decide +kernel
theorem dL_looks_54 : decode cL_looks 54 = .ok (.invokevirtual 89, 3) := by decide +kernel
theorem dL_looks_57 : decode cL_looks 57 = .ok (.ifCond .eq 7, 3) := by decide +kernel
theorem dL_looks_60 : decode cL_looks 60 = .ok (.iconst 1, 1) := by decide +kernel
theorem dL_looks_61 : decode cL_looks 61 = .ok (.goto 4, 3) := by decide +kernel
theorem dL_looks_64 : decode cL_looks 64 = .ok (.iconst 0, 1) := by decide +kernel
theorem dL_looks_65 : decode cL_looks 65 = .ok (.ireturn, 1) := by decide +kernel
theorem dL_looks_66 : decode cL_looks 66 = .ok (.astore 4, 2) := by decide +kernel
theorem dL_looks_68 : decode cL_looks 68 = .ok (.ldc 58, 2) := by decide +kernel
theorem dL_looks_70 : decode cL_looks 70 = .ok (.ireturn, 1) := by decide +kernel
theorem dL_act_0 : decode cL_act 0 = .ok (.iload_n 1, 1) := by decide +kernel
theorem dL_act_1 : decode cL_act 1 = .ok (.bipush 18, 2) := by decide +kernel
theorem dL_act_3 : decode cL_act 3 = .ok (.ishr, 1) := by decide +kernel
theorem dL_act_4 : decode cL_act 4 = .ok (.bipush 7, 2) := by decide +kernel
theorem dL_act_6 : decode cL_act 6 = .ok (.iand, 1) := by decide +kernel
theorem dL_act_7 : decode cL_act 7 = .ok (.bipush 7, 2) := by decide +kernel
theorem dL_act_9 : decode cL_act 9 = .ok (.if_icmp .ne 7, 3) := by decide +kernel
theorem dL_act_12 : decode cL_act 12 = .ok (.iconst 1, 1) := by decide +kernel
theorem dL_act_13 : decode cL_act 13 = .ok (.goto 4, 3) := by decide +kernel
theorem dL_act_16 : decode cL_act 16 = .ok (.iconst 0, 1) := by decide +kernel
theorem dL_act_17 : decode cL_act 17 = .ok (.istore_n 2, 1) := by decide +kernel
theorem dL_act_18 : decode cL_act 18 = .ok (.iload_n 1, 1) := by decide +kernel
theorem dL_act_19 : decode cL_act 19 = .ok (.bipush 44, 2) := by decide +kernel
theorem dL_act_21 : decode cL_act 21 = .ok (.invokestatic 93, 3) := by decide +kernel
theorem dL_act_24 : decode cL_act 24 = .ok (.istore_n 3, 1) := by decide +kernel
theorem dL_act_25 : decode cL_act 25 = .ok (.iload_n 2, 1) := by decide +kernel
theorem dL_act_26 : decode cL_act 26 = .ok (.ifCond .eq 17, 3) := by decide +kernel
theorem dL_act_29 : decode cL_act 29 = .ok (.iload_n 1, 1) := by decide +kernel
theorem dL_act_30 : decode cL_act 30 = .ok (.bipush 6, 2) := by decide +kernel
theorem dL_act_32 : decode cL_act 32 = .ok (.ishr, 1) := by decide +kernel
theorem dL_act_33 : decode cL_act 33 = .ok (.bipush 9, 2) := by decide +kernel
theorem dL_act_35 : decode cL_act 35 = .ok (.invokestatic 93, 3) := by decide +kernel
theorem dL_act_38 : decode cL_act 38 = .ok (.iconst 1, 1) := by decide +kernel
theorem dL_act_39 : decode cL_act 39 = .ok (.isub, 1) := by decide +kernel
theorem dL_act_40 : decode cL_act 40 = .ok (.goto 11, 3) := by decide +kernel
theorem dL_act_43 : decode cL_act 43 = .ok (.iload_n 1, 1) := by decide +kernel
theorem dL_act_44 : decode cL_act 44 = .ok (.bipush 6, 2) := by decide +kernel
theorem dL_act_46 : decode cL_act 46 = .ok (.ishr, 1) := by decide +kernel
theorem dL_act_47 : decode cL_act 47 = .ok (.iconst 4, 1) := by decide +kernel
theorem dL_act_48 : decode cL_act 48 = .ok (.invokestatic 93, 3) := by decide +kernel
theorem dL_act_51 : decode cL_act 51 = .ok (.istore 4, 2) := by decide +kernel
theorem dL_act_53 : decode cL_act 53 = .ok (.iload_n 2, 1) := by decide +kernel
theorem dL_act_54 : decode cL_act 54 = .ok (.ifCond .eq 17, 3) := by decide +kernel
theorem dL_act_57 : decode cL_act 57 = .ok (.iload_n 1, 1) := by decide +kernel
theorem dL_act_58 : decode cL_act 58 = .ok (.bipush 8, 2) := by decide +kernel
theorem dL_act_60 : decode cL_act 60 = .ok (.ishr, 1) := by decide +kernel
theorem dL_act_61 : decode cL_act 61 = .ok (.bipush 13, 2) := by decide +kernel
theorem dL_act_63 : decode cL_act 63 = .ok (.invokestatic 93, 3) := by decide +kernel
theorem dL_act_66 : decode cL_act 66 = .ok (.iconst 1, 1) := by decide +kernel
theorem dL_act_67 : decode cL_act 67 = .ok (.isub, 1) := by decide +kernel
theorem dL_act_68 : decode cL_act 68 = .ok (.goto 11, 3) := by decide +kernel
theorem dL_act_71 : decode cL_act 71 = .ok (.iload_n 1, 1) := by decide +kernel
theorem dL_act_72 : decode cL_act 72 = .ok (.bipush 8, 2) := by decide +kernel
theorem dL_act_74 : decode cL_act 74 = .ok (.ishr, 1) := by decide +kernel
theorem dL_act_75 : decode cL_act 75 = .ok (.iconst 4, 1) := by decide +kernel
theorem dL_act_76 : decode cL_act 76 = .ok (.invokestatic 93, 3) := by decide +kernel
theorem dL_act_79 : decode cL_act 79 = .ok (.istore 5, 2) := by decide +kernel
theorem dL_act_81 : decode cL_act 81 = .ok (.iload_n 2, 1) := by decide +kernel
theorem dL_act_82 : decode cL_act 82 = .ok (.ifCond .eq 17, 3) := by decide +kernel
theorem dL_act_85 : decode cL_act 85 = .ok (.iload_n 1, 1) := by decide +kernel
theorem dL_act_86 : decode cL_act 86 = .ok (.bipush 10, 2) := by decide +kernel
theorem dL_act_88 : decode cL_act 88 = .ok (.ishr, 1) := by decide +kernel
theorem dL_act_89 : decode cL_act 89 = .ok (.bipush 44, 2) := by decide +kernel
theorem dL_act_91 : decode cL_act 91 = .ok (.invokestatic 93, 3) := by decide +kernel
theorem dL_act_94 : decode cL_act 94 = .ok (.iconst 1, 1) := by decide +kernel
theorem dL_act_95 : decode cL_act 95 = .ok (.isub, 1) := by decide +kernel
theorem dL_act_96 : decode cL_act 96 = .ok (.goto 16, 3) := by decide +kernel
theorem dL_act_99 : decode cL_act 99 = .ok (.iload_n 1, 1) := by decide +kernel
theorem dL_act_100 : decode cL_act 100 = .ok (.bipush 10, 2) := by decide +kernel
theorem dL_act_102 : decode cL_act 102 = .ok (.ishr, 1) := by decide +kernel
theorem dL_act_103 : decode cL_act 103 = .ok (.aload_n 0, 1) := by decide +kernel
theorem dL_act_104 : decode cL_act 104 = .ok (.invokevirtual 96, 3) := by decide +kernel
theorem dL_act_107 : decode cL_act 107 = .ok (.iconst 1, 1) := by decide +kernel
theorem dL_act_108 : decode cL_act 108 = .ok (.iadd, 1) := by decide +kernel
theorem dL_act_109 : decode cL_act 109 = .ok (.invokestatic 93, 3) := by decide +kernel
theorem dL_act_112 : decode cL_act 112 = .ok (.istore 6, 2) := by decide +kernel
theorem dL_act_114 : decode cL_act 114 = .ok (.iload_n 3, 1) := by decide +kernel
theorem dL_act_115 : decode cL_act 115 = .ok (.bipush 8, 2) := by decide +kernel
theorem dL_act_117 : decode cL_act 117 = .ok (.if_icmp .ge 40, 3) := by decide +kernel
theorem dL_act_120 : decode cL_act 120 = .ok (.aload_n 0, 1) := by decide +kernel
theorem dL_act_121 : decode cL_act 121 = .ok (.iload_n 3, 1) := by decide +kernel
theorem dL_act_122 : decode cL_act 122 = .ok (.bipush 6, 2) := by decide +kernel
theorem dL_act_124 : decode cL_act 124 = .ok (.if_icmp .ge 7, 3) := by decide +kernel
theorem dL_act_127 : decode cL_act 127 = .ok (.iconst 0, 1) := by decide +kernel
theorem dL_act_128 : decode cL_act 128 = .ok (.goto 4, 3) := by decide +kernel
theorem dL_act_131 : decode cL_act 131 = .ok (.iconst 1, 1) := by decide +kernel
theorem dL_act_132 : decode cL_act 132 = .ok (.iload 4, 2) := by decide +kernel
theorem dL_act_134 : decode cL_act 134 = .ok (.iload_n 1, 1) := by decide +kernel
theorem dL_act_135 : decode cL_act 135 = .ok (.bipush 9, 2) := by decide +kernel
theorem dL_act_137 : decode cL_act 137 = .ok (.ishr, 1) := by decide +kernel
theorem dL_act_138 : decode cL_act 138 = .ok (.iload_n 2, 1) := by decide +kernel
theorem dL_act_139 : decode cL_act 139 = .ok (.ifCond .eq 8, 3) := by decide +kernel
theorem dL_act_142 : decode cL_act 142 = .ok (.bipush 8, 2) := by decide +kernel
theorem dL_act_144 : decode cL_act 144 = .ok (.goto 4, 3) := by decide +kernel
theorem dL_act_147 : decode cL_act 147 = .ok (.iconst 4, 1) := by decide +kernel
theorem dL_act_148 : decode cL_act 148 = .ok (.invokestatic 93, 3) := by decide +kernel
theorem dL_act_151 : decode cL_act 151 = .ok (.iconst 0, 1) := by decide +kernel
theorem dL_act_152 : decode cL_act 152 = .ok (.iconst 0, 1) := by decide +kernel
theorem dL_act_153 : decode cL_act 153 = .ok (.invokestatic 100, 3) := by decide +kernel
theorem dL_act_156 : decode cL_act 156 = .ok (.ireturn, 1) := by decide +kernel
theorem dL_act_157 : decode cL_act 157 = .ok (.iload_n 3, 1) := by decide +kernel
theorem dL_act_158 : decode cL_act 158 = .ok (.bipush 16, 2) := by decide +kernel
theorem dL_act_160 : decode cL_act 160 = .ok (.if_icmp .ge 57, 3) := by decide +kernel
theorem dL_act_163 : decode cL_act 163 = .ok (.iload_n 3, 1) := by decide +kernel
theorem dL_act_164 : decode cL_act 164 = .ok (.bipush 12, 2) := by decide +kernel
theorem dL_act_166 : decode cL_act 166 = .ok (.if_icmp .ge 40, 3) := by decide +kernel
theorem dL_act_169 : decode cL_act 169 = .ok (.aload_n 0, 1) := by decide +kernel
theorem dL_act_170 : decode cL_act 170 = .ok (.iconst 2, 1) := by decide +kernel
theorem dL_act_171 : decode cL_act 171 = .ok (.iload_n 2, 1) := by decide +kernel
theorem dL_act_172 : decode cL_act 172 = .ok (.ifCond .eq 15, 3) := by decide +kernel
theorem dL_act_175 : decode cL_act 175 = .ok (.iload_n 1, 1) := by decide +kernel
theorem dL_act_176 : decode cL_act 176 = .ok (.bipush 6, 2) := by decide +kernel
theorem dL_act_178 : decode cL_act 178 = .ok (.ishr, 1) := by decide +kernel
theorem dL_act_179 : decode cL_act 179 = .ok (.bipush 55, 2) := by decide +kernel
theorem dL_act_181 : decode cL_act 181 = .ok (.invokestatic 93, 3) := by decide +kernel
theorem dL_act_184 : decode cL_act 184 = .ok (.goto 13, 3) := by decide +kernel
theorem dL_act_187 : decode cL_act 187 = .ok (.iconst 1, 1) := by decide +kernel
theorem dL_act_188 : decode cL_act 188 = .ok (.iload_n 1, 1) := by decide +kernel
theorem dL_act_189 : decode cL_act 189 = .ok (.bipush 6, 2) := by decide +kernel
theorem dL_act_191 : decode cL_act 191 = .ok (.ishr, 1) := by decide +kernel
theorem dL_act_192 : decode cL_act 192 = .ok (.iconst 3, 1) := by decide +kernel
theorem dL_act_193 : decode cL_act 193 = .ok (.invokestatic 93, 3) := by decide +kernel
theorem dL_act_196 : decode cL_act 196 = .ok (.iadd, 1) := by decide +kernel
theorem dL_act_197 : decode cL_act 197 = .ok (.iconst 0, 1) := by decide +kernel
theorem dL_act_198 : decode cL_act 198 = .ok (.iconst 0, 1) := by decide +kernel
theorem dL_act_199 : decode cL_act 199 = .ok (.iconst 0, 1) := by decide +kernel
theorem dL_act_200 : decode cL_act 200 = .ok (.invokestatic 100, 3) := by decide +kernel
theorem dL_act_203 : decode cL_act 203 = .ok (.goto 13, 3) := by decide +kernel
theorem dL_act_206 : decode cL_act 206 = .ok (.aload_n 0, 1) := by decide +kernel
theorem dL_act_207 : decode cL_act 207 = .ok (.iconst 3, 1) := by decide +kernel
theorem dL_act_208 : decode cL_act 208 = .ok (.iload 4, 2) := by decide +kernel
theorem dL_act_210 : decode cL_act 210 = .ok (.iconst 0, 1) := by decide +kernel
theorem dL_act_211 : decode cL_act 211 = .ok (.iconst 0, 1) := by decide +kernel
theorem dL_act_212 : decode cL_act 212 = .ok (.iconst 0, 1) := by decide +kernel
theorem dL_act_213 : decode cL_act 213 = .ok (.invokestatic 100, 3) := by decide +kernel
theorem dL_act_216 : decode cL_act 216 = .ok (.ireturn, 1) := by decide +kernel
theorem dL_act_217 : decode cL_act 217 = .ok (.iload_n 3, 1) := by decide +kernel
theorem dL_act_218 : decode cL_act 218 = .ok (.bipush 19, 2) := by decide +kernel
theorem dL_act_220 : decode cL_act 220 = .ok (.if_icmp .ge 195, 3) := by decide +kernel
theorem dL_act_223 : decode cL_act 223 = .ok (.iload_n 3, 1) := by decide +kernel
theorem dL_act_224 : decode cL_act 224 = .ok (.bipush 16, 2) := by decide +kernel
theorem dL_act_226 : decode cL_act 226 = .ok (.if_icmp .ne 71, 3) := by decide +kernel
theorem dL_act_229 : decode cL_act 229 = .ok (.aload_n 0, 1) := by decide +kernel
theorem dL_act_230 : decode cL_act 230 = .ok (.iconst 0, 1) := by decide +kernel
theorem dL_act_231 : decode cL_act 231 = .ok (.iload_n 2, 1) := by decide +kernel
theorem dL_act_232 : decode cL_act 232 = .ok (.ifCond .eq 16, 3) := by decide +kernel
theorem dL_act_235 : decode cL_act 235 = .ok (.iload_n 1, 1) := by decide +kernel
theorem dL_act_236 : decode cL_act 236 = .ok (.bipush 6, 2) := by decide +kernel
theorem dL_act_238 : decode cL_act 238 = .ok (.ishr, 1) := by decide +kernel
theorem dL_act_239 : decode cL_act 239 = .ok (.iconst 4, 1) := by decide +kernel
theorem dL_act_240 : decode cL_act 240 = .ok (.invokestatic 93, 3) := by decide +kernel
theorem dL_act_243 : decode cL_act 243 = .ok (.iconst 1, 1) := by decide +kernel
theorem dL_act_244 : decode cL_act 244 = .ok (.isub, 1) := by decide +kernel
theorem dL_act_245 : decode cL_act 245 = .ok (.goto 17, 3) := by decide +kernel
theorem dL_act_248 : decode cL_act 248 = .ok (.iload_n 1, 1) := by decide +kernel
theorem dL_act_249 : decode cL_act 249 = .ok (.bipush 6, 2) := by decide +kernel
theorem dL_act_251 : decode cL_act 251 = .ok (.ishr, 1) := by decide +kernel
theorem dL_act_252 : decode cL_act 252 = .ok (.iconst 3, 1) := by decide +kernel
theorem dL_act_253 : decode cL_act 253 = .ok (.iand, 1) := by decide +kernel
theorem dL_act_254 : decode cL_act 254 = .ok (.ifCond .ne 7, 3) := by decide +kernel
theorem dL_act_257 : decode cL_act 257 = .ok (.iconst 1, 1) := by decide +kernel
theorem dL_act_258 : decode cL_act 258 = .ok (.goto 4, 3) := by decide +kernel
theorem dL_act_261 : decode cL_act 261 = .ok (.iconst 0, 1) := by decide +kernel
theorem dL_act_262 : decode cL_act 262 = .ok (.iload_n 2, 1) := by decide +kernel
theorem dL_act_263 : decode cL_act 263 = .ok (.ifCond .eq 17, 3) := by decide +kernel
theorem dL_act_266 : decode cL_act 266 = .ok (.iload_n 1, 1) := by decide +kernel
theorem dL_act_267 : decode cL_act 267 = .ok (.bipush 7, 2) := by decide +kernel
theorem dL_act_269 : decode cL_act 269 = .ok (.ishr, 1) := by decide +kernel
theorem dL_act_270 : decode cL_act 270 = .ok (.bipush 9, 2) := by decide +kernel
theorem dL_act_272 : decode cL_act 272 = .ok (.invokestatic 93, 3) := by decide +kernel
theorem dL_act_275 : decode cL_act 275 = .ok (.iconst 1, 1) := by decide +kernel
theorem dL_act_276 : decode cL_act 276 = .ok (.isub, 1) := by decide +kernel
theorem dL_act_277 : decode cL_act 277 = .ok (.goto 11, 3) := by decide +kernel
theorem dL_act_280 : decode cL_act 280 = .ok (.iload_n 1, 1) := by decide +kernel
theorem dL_act_281 : decode cL_act 281 = .ok (.bipush 7, 2) := by decide +kernel
theorem dL_act_283 : decode cL_act 283 = .ok (.ishr, 1) := by decide +kernel
theorem dL_act_284 : decode cL_act 284 = .ok (.iconst 3, 1) := by decide +kernel
theorem dL_act_285 : decode cL_act 285 = .ok (.invokestatic 93, 3) := by decide +kernel
theorem dL_act_288 : decode cL_act 288 = .ok (.iconst 0, 1) := by decide +kernel
theorem dL_act_289 : decode cL_act 289 = .ok (.iconst 0, 1) := by decide +kernel
theorem dL_act_290 : decode cL_act 290 = .ok (.iconst 0, 1) := by decide +kernel
theorem dL_act_291 : decode cL_act 291 = .ok (.invokestatic 104, 3) := by decide +kernel
theorem dL_act_294 : decode cL_act 294 = .ok (.goto 120, 3) := by decide +kernel
theorem dL_act_297 : decode cL_act 297 = .ok (.aload_n 0, 1) := by decide +kernel
theorem dL_act_298 : decode cL_act 298 = .ok (.iconst 1, 1) := by decide +kernel
theorem dL_act_299 : decode cL_act 299 = .ok (.iload_n 2, 1) := by decide +kernel
theorem dL_act_300 : decode cL_act 300 = .ok (.ifCond .eq 14, 3) := by decide +kernel
theorem dL_act_303 : decode cL_act 303 = .ok (.iload_n 1, 1) := by decide +kernel
theorem dL_act_304 : decode cL_act 304 = .ok (.iconst 5, 1) := by decide +kernel
theorem dL_act_305 : decode cL_act 305 = .ok (.ishr, 1) := by decide +kernel
theorem dL_act_306 : decode cL_act 306 = .ok (.bipush 70, 2) := by decide +kernel
theorem dL_act_308 : decode cL_act 308 = .ok (.invokestatic 93, 3) := by decide +kernel
theorem dL_act_311 : decode cL_act 311 = .ok (.goto 14, 3) := by decide +kernel
theorem dL_act_314 : decode cL_act 314 = .ok (.bipush 63, 2) := by decide +kernel
theorem dL_act_316 : decode cL_act 316 = .ok (.iload_n 1, 1) := by decide +kernel
theorem dL_act_317 : decode cL_act 317 = .ok (.iconst 5, 1) := by decide +kernel
theorem dL_act_318 : decode cL_act 318 = .ok (.ishr, 1) := by decide +kernel
theorem dL_act_319 : decode cL_act 319 = .ok (.bipush 32, 2) := by decide +kernel
theorem dL_act_321 : decode cL_act 321 = .ok (.invokestatic 93, 3) := by decide +kernel
theorem dL_act_324 : decode cL_act 324 = .ok (.isub, 1) := by decide +kernel
theorem dL_act_325 : decode cL_act 325 = .ok (.iconst 1, 1) := by decide +kernel
theorem dL_act_326 : decode cL_act 326 = .ok (.iload_n 1, 1) := by decide +kernel
theorem dL_act_327 : decode cL_act 327 = .ok (.bipush 7, 2) := by decide +kernel
theorem dL_act_329 : decode cL_act 329 = .ok (.ishr, 1) := by decide +kernel
theorem dL_act_330 : decode cL_act 330 = .ok (.iload_n 2, 1) := by decide +kernel
theorem dL_act_331 : decode cL_act 331 = .ok (.ifCond .eq 9, 3) := by decide +kernel
theorem dL_act_334 : decode cL_act 334 = .ok (.sipush 11000, 3) := by decide +kernel
theorem dL_act_337 : decode cL_act 337 = .ok (.goto 6, 3) := by decide +kernel
theorem dL_act_340 : decode cL_act 340 = .ok (.sipush 5000, 3) := by decide +kernel
theorem dL_act_343 : decode cL_act 343 = .ok (.invokestatic 93, 3) := by decide +kernel
theorem dL_act_346 : decode cL_act 346 = .ok (.iadd, 1) := by decide +kernel
theorem dL_act_347 : decode cL_act 347 = .ok (.iconst 1, 1) := by decide +kernel
theorem dL_act_348 : decode cL_act 348 = .ok (.iload_n 1, 1) := by decide +kernel
theorem dL_act_349 : decode cL_act 349 = .ok (.bipush 9, 2) := by decide +kernel
theorem dL_act_351 : decode cL_act 351 = .ok (.ishr, 1) := by decide +kernel
theorem dL_act_352 : decode cL_act 352 = .ok (.iload_n 2, 1) := by decide +kernel
theorem dL_act_353 : decode cL_act 353 = .ok (.ifCond .eq 8, 3) := by decide +kernel
theorem dL_act_356 : decode cL_act 356 = .ok (.ldc 107, 2) := by decide +kernel
theorem dL_act_358 : decode cL_act 358 = .ok (.goto 6, 3) := by decide +kernel
theorem dL_act_361 : decode cL_act 361 = .ok (.sipush 20000, 3) := by decide +kernel
theorem dL_act_364 : decode cL_act 364 = .ok (.invokestatic 93, 3) := by decide +kernel
theorem dL_act_367 : decode cL_act 367 = .ok (.iadd, 1) := by decide +kernel
theorem dL_act_368 : decode cL_act 368 = .ok (.iload_n 1, 1) := by decide +kernel
theorem dL_act_369 : decode cL_act 369 = .ok (.bipush 11, 2) := by decide +kernel
theorem dL_act_371 : decode cL_act 371 = .ok (.ishr, 1) := by decide +kernel
theorem dL_act_372 : decode cL_act 372 = .ok (.iload_n 2, 1) := by decide +kernel
theorem dL_act_373 : decode cL_act 373 = .ok (.ifCond .eq 9, 3) := by decide +kernel
theorem dL_act_376 : decode cL_act 376 = .ok (.sipush 420, 3) := by decide +kernel
theorem dL_act_379 : decode cL_act 379 = .ok (.goto 5, 3) := by decide +kernel
theorem dL_act_382 : decode cL_act 382 = .ok (.bipush 30, 2) := by decide +kernel
theorem dL_act_384 : decode cL_act 384 = .ok (.invokestatic 93, 3) := by decide +kernel
theorem dL_act_387 : decode cL_act 387 = .ok (.iload_n 2, 1) := by decide +kernel
theorem dL_act_388 : decode cL_act 388 = .ok (.ifCond .eq 17, 3) := by decide +kernel
theorem dL_act_391 : decode cL_act 391 = .ok (.iload_n 1, 1) := by decide +kernel
theorem dL_act_392 : decode cL_act 392 = .ok (.bipush 14, 2) := by decide +kernel
theorem dL_act_394 : decode cL_act 394 = .ok (.ishr, 1) := by decide +kernel
theorem dL_act_395 : decode cL_act 395 = .ok (.bipush 7, 2) := by decide +kernel
theorem dL_act_397 : decode cL_act 397 = .ok (.invokestatic 93, 3) := by decide +kernel
theorem dL_act_400 : decode cL_act 400 = .ok (.iconst 1, 1) := by decide +kernel
theorem dL_act_401 : decode cL_act 401 = .ok (.isub, 1) := by decide +kernel
theorem dL_act_402 : decode cL_act 402 = .ok (.goto 9, 3) := by decide +kernel
theorem dL_act_405 : decode cL_act 405 = .ok (.iload_n 1, 1) := by decide +kernel
theorem dL_act_406 : decode cL_act 406 = .ok (.bipush 14, 2) := by decide +kernel
theorem dL_act_408 : decode cL_act 408 = .ok (.ishr, 1) := by decide +kernel
theorem dL_act_409 : decode cL_act 409 = .ok (.iconst 3, 1) := by decide +kernel
theorem dL_act_410 : decode cL_act 410 = .ok (.iand, 1) := by decide +kernel
theorem dL_act_411 : decode cL_act 411 = .ok (.invokestatic 104, 3) := by decide +kernel
theorem dL_act_414 : decode cL_act 414 = .ok (.ireturn, 1) := by decide +kernel
theorem dL_act_415 : decode cL_act 415 = .ok (.iload_n 3, 1) := by decide +kernel
theorem dL_act_416 : decode cL_act 416 = .ok (.bipush 29, 2) := by decide +kernel
theorem dL_act_418 : decode cL_act 418 = .ok (.if_icmp .ge 155, 3) := by decide +kernel
theorem dL_act_421 : decode cL_act 421 = .ok (.iload_n 3, 1) := by decide +kernel
theorem dL_act_422 : decode cL_act 422 = .ok (.bipush 22, 2) := by decide +kernel
theorem dL_act_424 : decode cL_act 424 = .ok (.if_icmp .ge 7, 3) := by decide +kernel
theorem dL_act_427 : decode cL_act 427 = .ok (.iconst 4, 1) := by decide +kernel
theorem dL_act_428 : decode cL_act 428 = .ok (.goto 26, 3) := by decide +kernel
theorem dL_act_431 : decode cL_act 431 = .ok (.iload_n 3, 1) := by decide +kernel
theorem dL_act_432 : decode cL_act 432 = .ok (.bipush 26, 2) := by decide +kernel
theorem dL_act_434 : decode cL_act 434 = .ok (.if_icmp .ge 7, 3) := by decide +kernel
theorem dL_act_437 : decode cL_act 437 = .ok (.iconst 5, 1) := by decide +kernel
theorem dL_act_438 : decode cL_act 438 = .ok (.goto 16, 3) := by decide +kernel
theorem dL_act_441 : decode cL_act 441 = .ok (.iload_n 3, 1) := by decide +kernel
theorem dL_act_442 : decode cL_act 442 = .ok (.bipush 28, 2) := by decide +kernel
theorem dL_act_444 : decode cL_act 444 = .ok (.if_icmp .ge 8, 3) := by decide +kernel
theorem dL_act_447 : decode cL_act 447 = .ok (.bipush 6, 2) := by decide +kernel
theorem dL_act_449 : decode cL_act 449 = .ok (.goto 5, 3) := by decide +kernel
theorem dL_act_452 : decode cL_act 452 = .ok (.bipush 7, 2) := by decide +kernel

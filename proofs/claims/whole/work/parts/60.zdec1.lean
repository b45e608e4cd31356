theorem dX11_act_100 : decode cX11_act 100 = .ok (.iload_n 1, 1) := by decide +kernel
theorem dX11_act_101 : decode cX11_act 101 = .ok (.aload_n 0, 1) := by decide +kernel
theorem dX11_act_102 : decode cX11_act 102 = .ok (.getfield 42, 3) := by decide +kernel
theorem dX11_act_105 : decode cX11_act 105 = .ok (.invokevirtual 171, 3) := by decide +kernel
theorem dX11_act_108 : decode cX11_act 108 = .ok (.pop, 1) := by decide +kernel
theorem dX11_act_109 : decode cX11_act 109 = .ok (.aload 7, 2) := by decide +kernel
theorem dX11_act_111 : decode cX11_act 111 = .ok (.aload_n 0, 1) := by decide +kernel
theorem dX11_act_112 : decode cX11_act 112 = .ok (.aload 7, 2) := by decide +kernel
theorem dX11_act_114 : decode cX11_act 114 = .ok (.invokevirtual 203, 3) := by decide +kernel
theorem dX11_act_117 : decode cX11_act 117 = .ok (.ifCond .ne 7, 3) := by decide +kernel
theorem dX11_act_120 : decode cX11_act 120 = .ok (.iconst 1, 1) := by decide +kernel
theorem dX11_act_121 : decode cX11_act 121 = .ok (.goto 4, 3) := by decide +kernel
theorem dX11_act_124 : decode cX11_act 124 = .ok (.iconst 0, 1) := by decide +kernel
theorem dX11_act_125 : decode cX11_act 125 = .ok (.putfield 207, 3) := by decide +kernel
theorem dX11_act_128 : decode cX11_act 128 = .ok (.aload_n 0, 1) := by decide +kernel
theorem dX11_act_129 : decode cX11_act 129 = .ok (.getfield 32, 3) := by decide +kernel
theorem dX11_act_132 : decode cX11_act 132 = .ok (.iload_n 1, 1) := by decide +kernel
theorem dX11_act_133 : decode cX11_act 133 = .ok (.aaload, 1) := by decide +kernel
theorem dX11_act_134 : decode cX11_act 134 = .ok (.aload 7, 2) := by decide +kernel
theorem dX11_act_136 : decode cX11_act 136 = .ok (.invokevirtual 211, 3) := by decide +kernel
theorem dX11_act_139 : decode cX11_act 139 = .ok (.ireturn, 1) := by decide +kernel
theorem dX11_tamper_0 : decode cX11_tamper 0 = .ok (.aload_n 0, 1) := by decide +kernel
theorem dX11_tamper_1 : decode cX11_tamper 1 = .ok (.iload_n 1, 1) := by decide +kernel
theorem dX11_tamper_2 : decode cX11_tamper 2 = .ok (.iload_n 2, 1) := by decide +kernel
theorem dX11_tamper_3 : decode cX11_tamper 3 = .ok (.invokevirtual 214, 3) := by decide +kernel
theorem dX11_tamper_6 : decode cX11_tamper 6 = .ok (.iload_n 3, 1) := by decide +kernel
theorem dX11_tamper_7 : decode cX11_tamper 7 = .ok (.iconst 1, 1) := by decide +kernel
theorem dX11_tamper_8 : decode cX11_tamper 8 = .ok (.sipush 10000, 3) := by decide +kernel
theorem dX11_tamper_11 : decode cX11_tamper 11 = .ok (.invokestatic 86, 3) := by decide +kernel
theorem dX11_tamper_14 : decode cX11_tamper 14 = .ok (.aload_n 0, 1) := by decide +kernel
theorem dX11_tamper_15 : decode cX11_tamper 15 = .ok (.getfield 32, 3) := by decide +kernel
theorem dX11_tamper_18 : decode cX11_tamper 18 = .ok (.iload_n 1, 1) := by decide +kernel
theorem dX11_tamper_19 : decode cX11_tamper 19 = .ok (.aaload, 1) := by decide +kernel
theorem dX11_tamper_20 : decode cX11_tamper 20 = .ok (.iload_n 2, 1) := by decide +kernel
theorem dX11_tamper_21 : decode cX11_tamper 21 = .ok (.invokevirtual 217, 3) := by decide +kernel
theorem dX11_tamper_24 : decode cX11_tamper 24 = .ok (.astore 4, 2) := by decide +kernel
theorem dX11_tamper_26 : decode cX11_tamper 26 = .ok (.aload 4, 2) := by decide +kernel
theorem dX11_tamper_28 : decode cX11_tamper 28 = .ok (.getfield 221, 3) := by decide +kernel
theorem dX11_tamper_31 : decode cX11_tamper 31 = .ok (.iconst 3, 1) := by decide +kernel
theorem dX11_tamper_32 : decode cX11_tamper 32 = .ok (.iaload, 1) := by decide +kernel
theorem dX11_tamper_33 : decode cX11_tamper 33 = .ok (.istore 5, 2) := by decide +kernel
theorem dX11_tamper_35 : decode cX11_tamper 35 = .ok (.aload 4, 2) := by decide +kernel
theorem dX11_tamper_37 : decode cX11_tamper 37 = .ok (.getfield 221, 3) := by decide +kernel
theorem dX11_tamper_40 : decode cX11_tamper 40 = .ok (.iconst 3, 1) := by decide +kernel
theorem dX11_tamper_41 : decode cX11_tamper 41 = .ok (.iload_n 3, 1) := by decide +kernel
theorem dX11_tamper_42 : decode cX11_tamper 42 = .ok (.iastore, 1) := by decide +kernel
theorem dX11_tamper_43 : decode cX11_tamper 43 = .ok (.iload 5, 2) := by decide +kernel
theorem dX11_tamper_45 : decode cX11_tamper 45 = .ok (.ireturn, 1) := by decide +kernel
theorem dX11_copy_0 : decode cX11_copy 0 = .ok (.aload_n 0, 1) := by decide +kernel
theorem dX11_copy_1 : decode cX11_copy 1 = .ok (.iload_n 1, 1) := by decide +kernel
theorem dX11_copy_2 : decode cX11_copy 2 = .ok (.iload_n 2, 1) := by decide +kernel
theorem dX11_copy_3 : decode cX11_copy 3 = .ok (.invokevirtual 214, 3) := by decide +kernel
theorem dX11_copy_6 : decode cX11_copy 6 = .ok (.aload_n 0, 1) := by decide +kernel
theorem dX11_copy_7 : decode cX11_copy 7 = .ok (.iload_n 1, 1) := by decide +kernel
theorem dX11_copy_8 : decode cX11_copy 8 = .ok (.iload_n 3, 1) := by decide +kernel
theorem dX11_copy_9 : decode cX11_copy 9 = .ok (.invokevirtual 214, 3) := by decide +kernel
theorem dX11_copy_12 : decode cX11_copy 12 = .ok (.iload 4, 2) := by decide +kernel
theorem dX11_copy_14 : decode cX11_copy 14 = .ok (.iconst 0, 1) := by decide +kernel
theorem dX11_copy_15 : decode cX11_copy 15 = .ok (.bipush 63, 2) := by decide +kernel
theorem dX11_copy_17 : decode cX11_copy 17 = .ok (.invokestatic 86, 3) := by decide +kernel
theorem dX11_copy_20 : decode cX11_copy 20 = .ok (.iload_n 3, 1) := by decide +kernel
theorem dX11_copy_21 : decode cX11_copy 21 = .ok (.iload_n 2, 1) := by decide +kernel
theorem dX11_copy_22 : decode cX11_copy 22 = .ok (.if_icmp .ge 13, 3) := by decide +kernel
theorem dX11_copy_25 : decode cX11_copy 25 = .ok (.new 134, 3) := by decide +kernel
theorem dX11_copy_28 : decode cX11_copy 28 = .ok (.dup, 1) := by decide +kernel
theorem dX11_copy_29 : decode cX11_copy 29 = .ok (.ldc 225, 2) := by decide +kernel
theorem dX11_copy_31 : decode cX11_copy 31 = .ok (.invokespecial 138, 3) := by decide +kernel
theorem dX11_copy_34 : decode cX11_copy 34 = .ok (.athrow, 1) := by decide +kernel
theorem dX11_copy_35 : decode cX11_copy 35 = .ok (.aload_n 0, 1) := by decide +kernel
theorem dX11_copy_36 : decode cX11_copy 36 = .ok (.getfield 39, 3) := by decide +kernel
theorem dX11_copy_39 : decode cX11_copy 39 = .ok (.invokevirtual 227, 3) := by decide +kernel
theorem dX11_copy_42 : decode cX11_copy 42 = .ok (.bipush 12, 2) := by decide +kernel
theorem dX11_copy_44 : decode cX11_copy 44 = .ok (.if_icmp .lt 13, 3) := by decide +kernel
theorem dX11_copy_47 : decode cX11_copy 47 = .ok (.new 70, 3) := by decide +kernel
theorem dX11_copy_50 : decode cX11_copy 50 = .ok (.dup, 1) := by decide +kernel
theorem dX11_copy_51 : decode cX11_copy 51 = .ok (.ldc 231, 2) := by decide +kernel
theorem dX11_copy_53 : decode cX11_copy 53 = .ok (.invokespecial 74, 3) := by decide +kernel
theorem dX11_copy_56 : decode cX11_copy 56 = .ok (.athrow, 1) := by decide +kernel
theorem dX11_copy_57 : decode cX11_copy 57 = .ok (.new 233, 3) := by decide +kernel
theorem dX11_copy_60 : decode cX11_copy 60 = .ok (.dup, 1) := by decide +kernel
theorem dX11_copy_61 : decode cX11_copy 61 = .ok (.iload_n 1, 1) := by decide +kernel
theorem dX11_copy_62 : decode cX11_copy 62 = .ok (.iload_n 2, 1) := by decide +kernel
theorem dX11_copy_63 : decode cX11_copy 63 = .ok (.iload_n 3, 1) := by decide +kernel
theorem dX11_copy_64 : decode cX11_copy 64 = .ok (.iload_n 2, 1) := by decide +kernel
theorem dX11_copy_65 : decode cX11_copy 65 = .ok (.isub, 1) := by decide +kernel
theorem dX11_copy_66 : decode cX11_copy 66 = .ok (.iconst 1, 1) := by decide +kernel
theorem dX11_copy_67 : decode cX11_copy 67 = .ok (.iadd, 1) := by decide +kernel
theorem dX11_copy_68 : decode cX11_copy 68 = .ok (.iload 4, 2) := by decide +kernel
theorem dX11_copy_70 : decode cX11_copy 70 = .ok (.invokespecial 235, 3) := by decide +kernel
theorem dX11_copy_73 : decode cX11_copy 73 = .ok (.astore 5, 2) := by decide +kernel
theorem dX11_copy_75 : decode cX11_copy 75 = .ok (.aload 5, 2) := by decide +kernel
theorem dX11_copy_77 : decode cX11_copy 77 = .ok (.aload_n 0, 1) := by decide +kernel
theorem dX11_copy_78 : decode cX11_copy 78 = .ok (.getfield 32, 3) := by decide +kernel
theorem dX11_copy_81 : decode cX11_copy 81 = .ok (.iload_n 1, 1) := by decide +kernel
theorem dX11_copy_82 : decode cX11_copy 82 = .ok (.aaload, 1) := by decide +kernel
theorem dX11_copy_83 : decode cX11_copy 83 = .ok (.invokevirtual 238, 3) := by decide +kernel
theorem dX11_copy_86 : decode cX11_copy 86 = .ok (.aload_n 0, 1) := by decide +kernel
theorem dX11_copy_87 : decode cX11_copy 87 = .ok (.getfield 39, 3) := by decide +kernel
theorem dX11_copy_90 : decode cX11_copy 90 = .ok (.aload 5, 2) := by decide +kernel
theorem dX11_copy_92 : decode cX11_copy 92 = .ok (.invokevirtual 242, 3) := by decide +kernel
theorem dX11_copy_95 : decode cX11_copy 95 = .ok (.pop, 1) := by decide +kernel
theorem dX11_copy_96 : decode cX11_copy 96 = .ok (.aload_n 0, 1) := by decide +kernel
theorem dX11_copy_97 : decode cX11_copy 97 = .ok (.getfield 39, 3) := by decide +kernel
theorem dX11_copy_100 : decode cX11_copy 100 = .ok (.invokevirtual 227, 3) := by decide +kernel
theorem dX11_copy_103 : decode cX11_copy 103 = .ok (.iconst 1, 1) := by decide +kernel
theorem dX11_copy_104 : decode cX11_copy 104 = .ok (.isub, 1) := by decide +kernel
theorem dX11_copy_105 : decode cX11_copy 105 = .ok (.ireturn, 1) := by decide +kernel
theorem dX11_forge_0 : decode cX11_forge 0 = .ok (.aload_n 0, 1) := by decide +kernel
theorem dX11_forge_1 : decode cX11_forge 1 = .ok (.iload_n 1, 1) := by decide +kernel
theorem dX11_forge_2 : decode cX11_forge 2 = .ok (.iload_n 2, 1) := by decide +kernel
theorem dX11_forge_3 : decode cX11_forge 3 = .ok (.invokevirtual 246, 3) := by decide +kernel
theorem dX11_forge_6 : decode cX11_forge 6 = .ok (.iload_n 3, 1) := by decide +kernel
theorem dX11_forge_7 : decode cX11_forge 7 = .ok (.invokestatic 249, 3) := by decide +kernel
theorem dX11_forge_10 : decode cX11_forge 10 = .ok (.iload 4, 2) := by decide +kernel
theorem dX11_forge_12 : decode cX11_forge 12 = .ok (.iconst 0, 1) := by decide +kernel
theorem dX11_forge_13 : decode cX11_forge 13 = .ok (.sipush 10000, 3) := by decide +kernel
theorem dX11_forge_16 : decode cX11_forge 16 = .ok (.invokestatic 86, 3) := by decide +kernel
theorem dX11_forge_19 : decode cX11_forge 19 = .ok (.aload_n 0, 1) := by decide +kernel
theorem dX11_forge_20 : decode cX11_forge 20 = .ok (.getfield 39, 3) := by decide +kernel
theorem dX11_forge_23 : decode cX11_forge 23 = .ok (.iload_n 1, 1) := by decide +kernel
theorem dX11_forge_24 : decode cX11_forge 24 = .ok (.invokevirtual 121, 3) := by decide +kernel
theorem dX11_forge_27 : decode cX11_forge 27 = .ok (.checkcast 233, 3) := by decide +kernel
theorem dX11_forge_30 : decode cX11_forge 30 = .ok (.astore 5, 2) := by decide +kernel
theorem dX11_forge_32 : decode cX11_forge 32 = .ok (.aload 5, 2) := by decide +kernel
theorem dX11_forge_34 : decode cX11_forge 34 = .ok (.iload_n 3, 1) := by decide +kernel
theorem dX11_forge_35 : decode cX11_forge 35 = .ok (.invokevirtual 252, 3) := by decide +kernel
theorem dX11_forge_38 : decode cX11_forge 38 = .ok (.ifCond .eq 13, 3) := by decide +kernel
theorem dX11_forge_41 : decode cX11_forge 41 = .ok (.new 70, 3) := by decide +kernel
theorem dX11_forge_44 : decode cX11_forge 44 = .ok (.dup, 1) := by decide +kernel
theorem dX11_forge_45 : decode cX11_forge 45 = .ok (.ldc 255, 2) := by decide +kernel
theorem dX11_forge_47 : decode cX11_forge 47 = .ok (.invokespecial 74, 3) := by decide +kernel
theorem dX11_forge_50 : decode cX11_forge 50 = .ok (.athrow, 1) := by decide +kernel
theorem dX11_forge_51 : decode cX11_forge 51 = .ok (.aload 5, 2) := by decide +kernel
theorem dX11_forge_53 : decode cX11_forge 53 = .ok (.getfield 257, 3) := by decide +kernel
theorem dX11_forge_56 : decode cX11_forge 56 = .ok (.iload_n 2, 1) := by decide +kernel
theorem dX11_forge_57 : decode cX11_forge 57 = .ok (.aaload, 1) := by decide +kernel
theorem dX11_forge_58 : decode cX11_forge 58 = .ok (.iload_n 3, 1) := by decide +kernel
theorem dX11_forge_59 : decode cX11_forge 59 = .ok (.iaload, 1) := by decide +kernel
theorem dX11_forge_60 : decode cX11_forge 60 = .ok (.istore 6, 2) := by decide +kernel
theorem dX11_forge_62 : decode cX11_forge 62 = .ok (.aload 5, 2) := by decide +kernel
theorem dX11_forge_64 : decode cX11_forge 64 = .ok (.getfield 257, 3) := by decide +kernel
theorem dX11_forge_67 : decode cX11_forge 67 = .ok (.iload_n 2, 1) := by decide +kernel
theorem dX11_forge_68 : decode cX11_forge 68 = .ok (.aaload, 1) := by decide +kernel
theorem dX11_forge_69 : decode cX11_forge 69 = .ok (.iload_n 3, 1) := by decide +kernel
theorem dX11_forge_70 : decode cX11_forge 70 = .ok (.iload 4, 2) := by decide +kernel
theorem dX11_forge_72 : decode cX11_forge 72 = .ok (.iastore, 1) := by decide +kernel
theorem dX11_forge_73 : decode cX11_forge 73 = .ok (.iload 6, 2) := by decide +kernel
theorem dX11_forge_75 : decode cX11_forge 75 = .ok (.ireturn, 1) := by decide +kernel
theorem dX11_hour_0 : decode cX11_hour 0 = .ok (.aload_n 0, 1) := by decide +kernel
theorem dX11_hour_1 : decode cX11_hour 1 = .ok (.getfield 42, 3) := by decide +kernel
theorem dX11_hour_4 : decode cX11_hour 4 = .ok (.ireturn, 1) := by decide +kernel
theorem dX11_news_0 : decode cX11_news 0 = .ok (.aload_n 0, 1) := by decide +kernel
theorem dX11_news_1 : decode cX11_news 1 = .ok (.getfield 19, 3) := by decide +kernel
theorem dX11_news_4 : decode cX11_news 4 = .ok (.invokevirtual 260, 3) := by decide +kernel
theorem dX11_news_7 : decode cX11_news 7 = .ok (.ireturn, 1) := by decide +kernel
theorem dX11_powers_0 : decode cX11_powers 0 = .ok (.aload_n 0, 1) := by decide +kernel
theorem dX11_powers_1 : decode cX11_powers 1 = .ok (.getfield 26, 3) := by decide +kernel
theorem dX11_powers_4 : decode cX11_powers 4 = .ok (.invokevirtual 227, 3) := by decide +kernel
theorem dX11_powers_7 : decode cX11_powers 7 = .ok (.ireturn, 1) := by decide +kernel
theorem dX11_records_0 : decode cX11_records 0 = .ok (.iload_n 1, 1) := by decide +kernel
theorem dX11_records_1 : decode cX11_records 1 = .ok (.invokestatic 99, 3) := by decide +kernel
theorem dX11_records_4 : decode cX11_records 4 = .ok (.aload_n 0, 1) := by decide +kernel
theorem dX11_records_5 : decode cX11_records 5 = .ok (.getfield 32, 3) := by decide +kernel
theorem dX11_records_8 : decode cX11_records 8 = .ok (.iload_n 1, 1) := by decide +kernel
theorem dX11_records_9 : decode cX11_records 9 = .ok (.aaload, 1) := by decide +kernel
theorem dX11_records_10 : decode cX11_records 10 = .ok (.invokevirtual 263, 3) := by decide +kernel
theorem dX11_records_13 : decode cX11_records 13 = .ok (.ireturn, 1) := by decide +kernel
theorem dX11_areJoined_0 : decode cX11_areJoined 0 = .ok (.iload_n 1, 1) := by decide +kernel
theorem dX11_areJoined_1 : decode cX11_areJoined 1 = .ok (.invokestatic 99, 3) := by decide +kernel
theorem dX11_areJoined_4 : decode cX11_areJoined 4 = .ok (.iload_n 2, 1) := by decide +kernel
theorem dX11_areJoined_5 : decode cX11_areJoined 5 = .ok (.invokestatic 99, 3) := by decide +kernel
theorem dX11_areJoined_8 : decode cX11_areJoined 8 = .ok (.aload_n 0, 1) := by decide +kernel
theorem dX11_areJoined_9 : decode cX11_areJoined 9 = .ok (.getfield 10, 3) := by decide +kernel
theorem dX11_areJoined_12 : decode cX11_areJoined 12 = .ok (.iload_n 1, 1) := by decide +kernel
theorem dX11_areJoined_13 : decode cX11_areJoined 13 = .ok (.iload_n 2, 1) := by decide +kernel
theorem dX11_areJoined_14 : decode cX11_areJoined 14 = .ok (.invokevirtual 66, 3) := by decide +kernel
theorem dX11_areJoined_17 : decode cX11_areJoined 17 = .ok (.ireturn, 1) := by decide +kernel
theorem dX11_came_0 : decode cX11_came 0 = .ok (.iload_n 1, 1) := by decide +kernel
theorem dX11_came_1 : decode cX11_came 1 = .ok (.invokestatic 99, 3) := by decide +kernel
theorem dX11_came_4 : decode cX11_came 4 = .ok (.aload_n 0, 1) := by decide +kernel
theorem dX11_came_5 : decode cX11_came 5 = .ok (.iload_n 2, 1) := by decide +kernel
theorem dX11_came_6 : decode cX11_came 6 = .ok (.invokevirtual 264, 3) := by decide +kernel
theorem dX11_came_9 : decode cX11_came 9 = .ok (.aload_n 0, 1) := by decide +kernel
theorem dX11_came_10 : decode cX11_came 10 = .ok (.getfield 19, 3) := by decide +kernel
theorem dX11_came_13 : decode cX11_came 13 = .ok (.iload_n 2, 1) := by decide +kernel
theorem dX11_came_14 : decode cX11_came 14 = .ok (.invokevirtual 267, 3) := by decide +kernel
theorem dX11_came_17 : decode cX11_came 17 = .ok (.getfield 271, 3) := by decide +kernel
theorem dX11_came_20 : decode cX11_came 20 = .ok (.iload_n 1, 1) := by decide +kernel
theorem dX11_came_21 : decode cX11_came 21 = .ok (.iaload, 1) := by decide +kernel
theorem dX11_came_22 : decode cX11_came 22 = .ok (.ireturn, 1) := by decide +kernel
theorem dX11_cameByLinks_0 : decode cX11_cameByLinks 0 = .ok (.iload_n 1, 1) := by decide +kernel
theorem dX11_cameByLinks_1 : decode cX11_cameByLinks 1 = .ok (.invokestatic 99, 3) := by decide +kernel
theorem dX11_cameByLinks_4 : decode cX11_cameByLinks 4 = .ok (.aload_n 0, 1) := by decide +kernel
theorem dX11_cameByLinks_5 : decode cX11_cameByLinks 5 = .ok (.iload_n 2, 1) := by decide +kernel
theorem dX11_cameByLinks_6 : decode cX11_cameByLinks 6 = .ok (.invokevirtual 264, 3) := by decide +kernel
theorem dX11_cameByLinks_9 : decode cX11_cameByLinks 9 = .ok (.aload_n 0, 1) := by decide +kernel
theorem dX11_cameByLinks_10 : decode cX11_cameByLinks 10 = .ok (.getfield 19, 3) := by decide +kernel
theorem dX11_cameByLinks_13 : decode cX11_cameByLinks 13 = .ok (.iload_n 2, 1) := by decide +kernel
theorem dX11_cameByLinks_14 : decode cX11_cameByLinks 14 = .ok (.invokevirtual 267, 3) := by decide +kernel
theorem dX11_cameByLinks_17 : decode cX11_cameByLinks 17 = .ok (.astore_n 3, 1) := by decide +kernel
theorem dX11_cameByLinks_18 : decode cX11_cameByLinks 18 = .ok (.aload_n 3, 1) := by decide +kernel
theorem dX11_cameByLinks_19 : decode cX11_cameByLinks 19 = .ok (.getfield 276, 3) := by decide +kernel
theorem dX11_cameByLinks_22 : decode cX11_cameByLinks 22 = .ok (.invokestatic 279, 3) := by decide +kernel
theorem dX11_cameByLinks_25 : decode cX11_cameByLinks 25 = .ok (.istore 4, 2) := by decide +kernel
theorem dX11_cameByLinks_27 : decode cX11_cameByLinks 27 = .ok (.iload 4, 2) := by decide +kernel
theorem dX11_cameByLinks_29 : decode cX11_cameByLinks 29 = .ok (.iload_n 1, 1) := by decide +kernel
theorem dX11_cameByLinks_30 : decode cX11_cameByLinks 30 = .ok (.invokestatic 282, 3) := by decide +kernel
theorem dX11_cameByLinks_33 : decode cX11_cameByLinks 33 = .ok (.ifCond .eq 8, 3) := by decide +kernel
theorem dX11_cameByLinks_36 : decode cX11_cameByLinks 36 = .ok (.aload_n 3, 1) := by decide +kernel
theorem dX11_cameByLinks_37 : decode cX11_cameByLinks 37 = .ok (.getfield 285, 3) := by decide +kernel
theorem dX11_cameByLinks_40 : decode cX11_cameByLinks 40 = .ok (.ireturn, 1) := by decide +kernel
theorem dX11_cameByLinks_41 : decode cX11_cameByLinks 41 = .ok (.aload_n 3, 1) := by decide +kernel
theorem dX11_cameByLinks_42 : decode cX11_cameByLinks 42 = .ok (.getfield 285, 3) := by decide +kernel
theorem dX11_cameByLinks_45 : decode cX11_cameByLinks 45 = .ok (.iconst 1, 1) := by decide +kernel
theorem dX11_cameByLinks_46 : decode cX11_cameByLinks 46 = .ok (.iadd, 1) := by decide +kernel
theorem dX11_cameByLinks_47 : decode cX11_cameByLinks 47 = .ok (.istore 5, 2) := by decide +kernel
theorem dX11_cameByLinks_49 : decode cX11_cameByLinks 49 = .ok (.iload 5, 2) := by decide +kernel
theorem dX11_cameByLinks_51 : decode cX11_cameByLinks 51 = .ok (.aload_n 0, 1) := by decide +kernel
theorem dX11_cameByLinks_52 : decode cX11_cameByLinks 52 = .ok (.getfield 42, 3) := by decide +kernel
theorem dX11_cameByLinks_55 : decode cX11_cameByLinks 55 = .ok (.if_icmp .gt 34, 3) := by decide +kernel
theorem dX11_cameByLinks_58 : decode cX11_cameByLinks 58 = .ok (.aload_n 0, 1) := by decide +kernel
theorem dX11_cameByLinks_59 : decode cX11_cameByLinks 59 = .ok (.getfield 10, 3) := by decide +kernel
theorem dX11_cameByLinks_62 : decode cX11_cameByLinks 62 = .ok (.iload 4, 2) := by decide +kernel
theorem dX11_cameByLinks_64 : decode cX11_cameByLinks 64 = .ok (.iload 5, 2) := by decide +kernel
theorem dX11_cameByLinks_66 : decode cX11_cameByLinks 66 = .ok (.invokevirtual 286, 3) := by decide +kernel
theorem dX11_cameByLinks_69 : decode cX11_cameByLinks 69 = .ok (.istore 4, 2) := by decide +kernel
theorem dX11_cameByLinks_71 : decode cX11_cameByLinks 71 = .ok (.iload 4, 2) := by decide +kernel
theorem dX11_cameByLinks_73 : decode cX11_cameByLinks 73 = .ok (.iload_n 1, 1) := by decide +kernel
theorem dX11_cameByLinks_74 : decode cX11_cameByLinks 74 = .ok (.invokestatic 282, 3) := by decide +kernel
theorem dX11_cameByLinks_77 : decode cX11_cameByLinks 77 = .ok (.ifCond .eq 6, 3) := by decide +kernel
theorem dX11_cameByLinks_80 : decode cX11_cameByLinks 80 = .ok (.iload 5, 2) := by decide +kernel
theorem dX11_cameByLinks_82 : decode cX11_cameByLinks 82 = .ok (.ireturn, 1) := by decide +kernel
theorem dX11_cameByLinks_83 : decode cX11_cameByLinks 83 = .ok (.iinc 5 1, 3) := by decide +kernel
theorem dX11_cameByLinks_86 : decode cX11_cameByLinks 86 = .ok (.goto (-37), 3) := by decide +kernel
theorem dX11_cameByLinks_89 : decode cX11_cameByLinks 89 = .ok (.iconst (-1), 1) := by decide +kernel
theorem dX11_cameByLinks_90 : decode cX11_cameByLinks 90 = .ok (.ireturn, 1) := by decide +kernel
theorem dX11_isRead_0 : decode cX11_isRead 0 = .ok (.iload_n 1, 1) := by decide +kernel
theorem dX11_isRead_1 : decode cX11_isRead 1 = .ok (.invokestatic 99, 3) := by decide +kernel
theorem dX11_isRead_4 : decode cX11_isRead 4 = .ok (.aload_n 0, 1) := by decide +kernel
theorem dX11_isRead_5 : decode cX11_isRead 5 = .ok (.iload_n 2, 1) := by decide +kernel
theorem dX11_isRead_6 : decode cX11_isRead 6 = .ok (.invokevirtual 264, 3) := by decide +kernel
theorem dX11_isRead_9 : decode cX11_isRead 9 = .ok (.aload_n 0, 1) := by decide +kernel
theorem dX11_isRead_10 : decode cX11_isRead 10 = .ok (.getfield 19, 3) := by decide +kernel
theorem dX11_isRead_13 : decode cX11_isRead 13 = .ok (.iload_n 2, 1) := by decide +kernel
theorem dX11_isRead_14 : decode cX11_isRead 14 = .ok (.invokevirtual 267, 3) := by decide +kernel
theorem dX11_isRead_17 : decode cX11_isRead 17 = .ok (.getfield 290, 3) := by decide +kernel
theorem dX11_isRead_20 : decode cX11_isRead 20 = .ok (.iload_n 1, 1) := by decide +kernel
theorem dX11_isRead_21 : decode cX11_isRead 21 = .ok (.invokestatic 282, 3) := by decide +kernel
theorem dX11_isRead_24 : decode cX11_isRead 24 = .ok (.ireturn, 1) := by decide +kernel
theorem dX11_mail_0 : decode cX11_mail 0 = .ok (.iload_n 1, 1) := by decide +kernel
theorem dX11_mail_1 : decode cX11_mail 1 = .ok (.invokestatic 99, 3) := by decide +kernel
theorem dX11_mail_4 : decode cX11_mail 4 = .ok (.aload_n 0, 1) := by decide +kernel
theorem dX11_mail_5 : decode cX11_mail 5 = .ok (.getfield 19, 3) := by decide +kernel
theorem dX11_mail_8 : decode cX11_mail 8 = .ok (.iload_n 1, 1) := by decide +kernel
theorem dX11_mail_9 : decode cX11_mail 9 = .ok (.invokevirtual 293, 3) := by decide +kernel
theorem dX11_mail_12 : decode cX11_mail 12 = .ok (.ireturn, 1) := by decide +kernel
theorem dX11_source_0 : decode cX11_source 0 = .ok (.aload_n 0, 1) := by decide +kernel
theorem dX11_source_1 : decode cX11_source 1 = .ok (.iload_n 1, 1) := by decide +kernel
theorem dX11_source_2 : decode cX11_source 2 = .ok (.invokevirtual 118, 3) := by decide +kernel
theorem dX11_source_5 : decode cX11_source 5 = .ok (.aload_n 0, 1) := by decide +kernel
theorem dX11_source_6 : decode cX11_source 6 = .ok (.getfield 26, 3) := by decide +kernel
theorem dX11_source_9 : decode cX11_source 9 = .ok (.iload_n 1, 1) := by decide +kernel
theorem dX11_source_10 : decode cX11_source 10 = .ok (.invokevirtual 121, 3) := by decide +kernel
theorem dX11_source_13 : decode cX11_source 13 = .ok (.checkcast 125, 3) := by decide +kernel
theorem dX11_source_16 : decode cX11_source 16 = .ok (.getfield 296, 3) := by decide +kernel
theorem dX11_source_19 : decode cX11_source 19 = .ok (.astore_n 2, 1) := by decide +kernel
theorem dX11_source_20 : decode cX11_source 20 = .ok (.aload_n 2, 1) := by decide +kernel
theorem dX11_source_21 : decode cX11_source 21 = .ok (.ifnonnull 7, 3) := by decide +kernel
theorem dX11_source_24 : decode cX11_source 24 = .ok (.iconst (-1), 1) := by decide +kernel
theorem dX11_source_25 : decode cX11_source 25 = .ok (.goto 7, 3) := by decide +kernel
theorem dX11_source_28 : decode cX11_source 28 = .ok (.aload_n 2, 1) := by decide +kernel
theorem dX11_source_29 : decode cX11_source 29 = .ok (.getfield 300, 3) := by decide +kernel
theorem dX11_source_32 : decode cX11_source 32 = .ok (.ireturn, 1) := by decide +kernel
theorem dX11_holder_0 : decode cX11_holder 0 = .ok (.aload_n 0, 1) := by decide +kernel
theorem dX11_holder_1 : decode cX11_holder 1 = .ok (.iload_n 1, 1) := by decide +kernel
theorem dX11_holder_2 : decode cX11_holder 2 = .ok (.invokevirtual 118, 3) := by decide +kernel
theorem dX11_holder_5 : decode cX11_holder 5 = .ok (.aload_n 0, 1) := by decide +kernel
theorem dX11_holder_6 : decode cX11_holder 6 = .ok (.getfield 26, 3) := by decide +kernel
theorem dX11_holder_9 : decode cX11_holder 9 = .ok (.iload_n 1, 1) := by decide +kernel
theorem dX11_holder_10 : decode cX11_holder 10 = .ok (.invokevirtual 121, 3) := by decide +kernel
theorem dX11_holder_13 : decode cX11_holder 13 = .ok (.checkcast 125, 3) := by decide +kernel
theorem dX11_holder_16 : decode cX11_holder 16 = .ok (.getfield 127, 3) := by decide +kernel
theorem dX11_holder_19 : decode cX11_holder 19 = .ok (.ireturn, 1) := by decide +kernel
theorem dX11_isGood_0 : decode cX11_isGood 0 = .ok (.iload_n 1, 1) := by decide +kernel
theorem dX11_isGood_1 : decode cX11_isGood 1 = .ok (.invokestatic 99, 3) := by decide +kernel
theorem dX11_isGood_4 : decode cX11_isGood 4 = .ok (.aload_n 0, 1) := by decide +kernel
theorem dX11_isGood_5 : decode cX11_isGood 5 = .ok (.iload_n 2, 1) := by decide +kernel
theorem dX11_isGood_6 : decode cX11_isGood 6 = .ok (.invokevirtual 118, 3) := by decide +kernel
theorem dX11_isGood_9 : decode cX11_isGood 9 = .ok (.aload_n 0, 1) := by decide +kernel
theorem dX11_isGood_10 : decode cX11_isGood 10 = .ok (.iload_n 1, 1) := by decide +kernel
theorem dX11_isGood_11 : decode cX11_isGood 11 = .ok (.aload_n 0, 1) := by decide +kernel
theorem dX11_isGood_12 : decode cX11_isGood 12 = .ok (.getfield 26, 3) := by decide +kernel
theorem dX11_isGood_15 : decode cX11_isGood 15 = .ok (.iload_n 2, 1) := by decide +kernel
theorem dX11_isGood_16 : decode cX11_isGood 16 = .ok (.invokevirtual 121, 3) := by decide +kernel
theorem dX11_isGood_19 : decode cX11_isGood 19 = .ok (.checkcast 125, 3) := by decide +kernel
theorem dX11_isGood_22 : decode cX11_isGood 22 = .ok (.invokevirtual 139, 3) := by decide +kernel
theorem dX11_isGood_25 : decode cX11_isGood 25 = .ok (.ireturn, 1) := by decide +kernel
theorem dX11_done_0 : decode cX11_done 0 = .ok (.iload_n 1, 1) := by decide +kernel
theorem dX11_done_1 : decode cX11_done 1 = .ok (.invokestatic 99, 3) := by decide +kernel
theorem dX11_done_4 : decode cX11_done 4 = .ok (.aload_n 0, 1) := by decide +kernel
theorem dX11_done_5 : decode cX11_done 5 = .ok (.iload_n 2, 1) := by decide +kernel
theorem dX11_done_6 : decode cX11_done 6 = .ok (.invokevirtual 118, 3) := by decide +kernel
theorem dX11_done_9 : decode cX11_done 9 = .ok (.aload_n 0, 1) := by decide +kernel
theorem dX11_done_10 : decode cX11_done 10 = .ok (.getfield 19, 3) := by decide +kernel
theorem dX11_done_13 : decode cX11_done 13 = .ok (.iload_n 1, 1) := by decide +kernel
theorem dX11_done_14 : decode cX11_done 14 = .ok (.invokevirtual 154, 3) := by decide +kernel
theorem dX11_done_17 : decode cX11_done 17 = .ok (.aload_n 0, 1) := by decide +kernel
theorem dX11_done_18 : decode cX11_done 18 = .ok (.getfield 19, 3) := by decide +kernel
theorem dX11_done_21 : decode cX11_done 21 = .ok (.aload_n 0, 1) := by decide +kernel
theorem dX11_done_22 : decode cX11_done 22 = .ok (.getfield 26, 3) := by decide +kernel
theorem dX11_done_25 : decode cX11_done 25 = .ok (.iload_n 2, 1) := by decide +kernel
theorem dX11_done_26 : decode cX11_done 26 = .ok (.invokevirtual 121, 3) := by decide +kernel
theorem dX11_done_29 : decode cX11_done 29 = .ok (.checkcast 125, 3) := by decide +kernel
theorem dX11_done_32 : decode cX11_done 32 = .ok (.invokevirtual 303, 3) := by decide +kernel
theorem dX11_done_35 : decode cX11_done 35 = .ok (.ireturn, 1) := by decide +kernel
theorem dX11_beyond_0 : decode cX11_beyond 0 = .ok (.aload_n 0, 1) := by decide +kernel
theorem dX11_beyond_1 : decode cX11_beyond 1 = .ok (.iload_n 1, 1) := by decide +kernel
theorem dX11_beyond_2 : decode cX11_beyond 2 = .ok (.invokevirtual 118, 3) := by decide +kernel
theorem dX11_beyond_5 : decode cX11_beyond 5 = .ok (.aload_n 0, 1) := by decide +kernel
theorem dX11_beyond_6 : decode cX11_beyond 6 = .ok (.getfield 26, 3) := by decide +kernel
theorem dX11_beyond_9 : decode cX11_beyond 9 = .ok (.iload_n 1, 1) := by decide +kernel
theorem dX11_beyond_10 : decode cX11_beyond 10 = .ok (.invokevirtual 121, 3) := by decide +kernel
theorem dX11_beyond_13 : decode cX11_beyond 13 = .ok (.checkcast 125, 3) := by decide +kernel
theorem dX11_beyond_16 : decode cX11_beyond 16 = .ok (.astore_n 2, 1) := by decide +kernel
theorem dX11_beyond_17 : decode cX11_beyond 17 = .ok (.aload_n 0, 1) := by decide +kernel
theorem dX11_beyond_18 : decode cX11_beyond 18 = .ok (.getfield 19, 3) := by decide +kernel
theorem dX11_beyond_21 : decode cX11_beyond 21 = .ok (.invokevirtual 175, 3) := by decide +kernel
theorem dX11_beyond_24 : decode cX11_beyond 24 = .ok (.iconst 0, 1) := by decide +kernel
theorem dX11_beyond_25 : decode cX11_beyond 25 = .ok (.aload_n 0, 1) := by decide +kernel
theorem dX11_beyond_26 : decode cX11_beyond 26 = .ok (.getfield 19, 3) := by decide +kernel
theorem dX11_beyond_29 : decode cX11_beyond 29 = .ok (.aload_n 2, 1) := by decide +kernel
theorem dX11_beyond_30 : decode cX11_beyond 30 = .ok (.invokevirtual 303, 3) := by decide +kernel
theorem dX11_beyond_33 : decode cX11_beyond 33 = .ok (.aload_n 2, 1) := by decide +kernel
theorem dX11_beyond_34 : decode cX11_beyond 34 = .ok (.getfield 307, 3) := by decide +kernel
theorem dX11_beyond_37 : decode cX11_beyond 37 = .ok (.isub, 1) := by decide +kernel
theorem dX11_beyond_38 : decode cX11_beyond 38 = .ok (.invokestatic 310, 3) := by decide +kernel
theorem dX11_beyond_41 : decode cX11_beyond 41 = .ok (.ireturn, 1) := by decide +kernel
theorem dX11_against_0 : decode cX11_against 0 = .ok (.iload_n 1, 1) := by decide +kernel
theorem dX11_against_1 : decode cX11_against 1 = .ok (.invokestatic 99, 3) := by decide +kernel
theorem dX11_against_4 : decode cX11_against 4 = .ok (.iload_n 2, 1) := by decide +kernel
theorem dX11_against_5 : decode cX11_against 5 = .ok (.invokestatic 105, 3) := by decide +kernel
theorem dX11_against_8 : decode cX11_against 8 = .ok (.aload_n 0, 1) := by decide +kernel
theorem dX11_against_9 : decode cX11_against 9 = .ok (.iload_n 3, 1) := by decide +kernel
theorem dX11_against_10 : decode cX11_against 10 = .ok (.invokevirtual 118, 3) := by decide +kernel
theorem dX11_against_13 : decode cX11_against 13 = .ok (.iload 4, 2) := by decide +kernel
theorem dX11_against_15 : decode cX11_against 15 = .ok (.iconst 1, 1) := by decide +kernel
theorem dX11_against_16 : decode cX11_against 16 = .ok (.sipush 10000, 3) := by decide +kernel
theorem dX11_against_19 : decode cX11_against 19 = .ok (.invokestatic 86, 3) := by decide +kernel
theorem dX11_against_22 : decode cX11_against 22 = .ok (.aload_n 0, 1) := by decide +kernel
theorem dX11_against_23 : decode cX11_against 23 = .ok (.getfield 19, 3) := by decide +kernel
theorem dX11_against_26 : decode cX11_against 26 = .ok (.iload_n 1, 1) := by decide +kernel
theorem dX11_against_27 : decode cX11_against 27 = .ok (.invokevirtual 154, 3) := by decide +kernel
theorem dX11_against_30 : decode cX11_against 30 = .ok (.aload_n 0, 1) := by decide +kernel
theorem dX11_against_31 : decode cX11_against 31 = .ok (.getfield 19, 3) := by decide +kernel
theorem dX11_against_34 : decode cX11_against 34 = .ok (.aload_n 0, 1) := by decide +kernel
theorem dX11_against_35 : decode cX11_against 35 = .ok (.getfield 26, 3) := by decide +kernel
theorem dX11_against_38 : decode cX11_against 38 = .ok (.iload_n 3, 1) := by decide +kernel
theorem dX11_against_39 : decode cX11_against 39 = .ok (.invokevirtual 121, 3) := by decide +kernel
theorem dX11_against_42 : decode cX11_against 42 = .ok (.checkcast 125, 3) := by decide +kernel
theorem dX11_against_45 : decode cX11_against 45 = .ok (.aload_n 0, 1) := by decide +kernel
theorem dX11_against_46 : decode cX11_against 46 = .ok (.iload_n 1, 1) := by decide +kernel
theorem dX11_against_47 : decode cX11_against 47 = .ok (.iload_n 2, 1) := by decide +kernel
theorem dX11_against_48 : decode cX11_against 48 = .ok (.iload 4, 2) := by decide +kernel
theorem dX11_against_50 : decode cX11_against 50 = .ok (.invokevirtual 188, 3) := by decide +kernel
theorem dX11_against_53 : decode cX11_against 53 = .ok (.invokevirtual 192, 3) := by decide +kernel
theorem dX11_against_56 : decode cX11_against 56 = .ok (.ireturn, 1) := by decide +kernel
theorem dX11_choices_0 : decode cX11_choices 0 = .ok (.iload_n 1, 1) := by decide +kernel
theorem dX11_choices_1 : decode cX11_choices 1 = .ok (.invokestatic 99, 3) := by decide +kernel
theorem dX11_choices_4 : decode cX11_choices 4 = .ok (.iload_n 2, 1) := by decide +kernel
theorem dX11_choices_5 : decode cX11_choices 5 = .ok (.invokestatic 105, 3) := by decide +kernel
theorem dX11_choices_8 : decode cX11_choices 8 = .ok (.iload_n 3, 1) := by decide +kernel
theorem dX11_choices_9 : decode cX11_choices 9 = .ok (.iconst 1, 1) := by decide +kernel
theorem dX11_choices_10 : decode cX11_choices 10 = .ok (.sipush 10000, 3) := by decide +kernel
theorem dX11_choices_13 : decode cX11_choices 13 = .ok (.invokestatic 86, 3) := by decide +kernel
theorem dX11_choices_16 : decode cX11_choices 16 = .ok (.aload_n 0, 1) := by decide +kernel
theorem dX11_choices_17 : decode cX11_choices 17 = .ok (.iload_n 1, 1) := by decide +kernel
theorem dX11_choices_18 : decode cX11_choices 18 = .ok (.iload_n 2, 1) := by decide +kernel
theorem dX11_choices_19 : decode cX11_choices 19 = .ok (.iload_n 3, 1) := by decide +kernel
theorem dX11_choices_20 : decode cX11_choices 20 = .ok (.invokevirtual 188, 3) := by decide +kernel
theorem dX11_choices_23 : decode cX11_choices 23 = .ok (.astore 4, 2) := by decide +kernel
theorem dX11_choices_25 : decode cX11_choices 25 = .ok (.aload_n 0, 1) := by decide +kernel
theorem dX11_choices_26 : decode cX11_choices 26 = .ok (.getfield 19, 3) := by decide +kernel
theorem dX11_choices_29 : decode cX11_choices 29 = .ok (.iload_n 1, 1) := by decide +kernel
theorem dX11_choices_30 : decode cX11_choices 30 = .ok (.invokevirtual 154, 3) := by decide +kernel
theorem dX11_choices_33 : decode cX11_choices 33 = .ok (.iconst 0, 1) := by decide +kernel
theorem dX11_choices_34 : decode cX11_choices 34 = .ok (.istore 5, 2) := by decide +kernel
theorem dX11_choices_36 : decode cX11_choices 36 = .ok (.iconst 0, 1) := by decide +kernel
theorem dX11_choices_37 : decode cX11_choices 37 = .ok (.istore 6, 2) := by decide +kernel
theorem dX11_choices_39 : decode cX11_choices 39 = .ok (.iload 6, 2) := by decide +kernel
theorem dX11_choices_41 : decode cX11_choices 41 = .ok (.aload_n 0, 1) := by decide +kernel
theorem dX11_choices_42 : decode cX11_choices 42 = .ok (.getfield 26, 3) := by decide +kernel
theorem dX11_choices_45 : decode cX11_choices 45 = .ok (.invokevirtual 227, 3) := by decide +kernel
theorem dX11_choices_48 : decode cX11_choices 48 = .ok (.if_icmp .ge 36, 3) := by decide +kernel
theorem dX11_choices_51 : decode cX11_choices 51 = .ok (.aload_n 0, 1) := by decide +kernel
theorem dX11_choices_52 : decode cX11_choices 52 = .ok (.getfield 19, 3) := by decide +kernel
theorem dX11_choices_55 : decode cX11_choices 55 = .ok (.aload_n 0, 1) := by decide +kernel
theorem dX11_choices_56 : decode cX11_choices 56 = .ok (.getfield 26, 3) := by decide +kernel
theorem dX11_choices_59 : decode cX11_choices 59 = .ok (.iload 6, 2) := by decide +kernel
theorem dX11_choices_61 : decode cX11_choices 61 = .ok (.invokevirtual 121, 3) := by decide +kernel
theorem dX11_choices_64 : decode cX11_choices 64 = .ok (.checkcast 125, 3) := by decide +kernel
theorem dX11_choices_67 : decode cX11_choices 67 = .ok (.aload 4, 2) := by decide +kernel
theorem dX11_choices_69 : decode cX11_choices 69 = .ok (.invokevirtual 192, 3) := by decide +kernel
theorem dX11_choices_72 : decode cX11_choices 72 = .ok (.ifCond .ne 6, 3) := by decide +kernel
theorem dX11_choices_75 : decode cX11_choices 75 = .ok (.iinc 5 1, 3) := by decide +kernel
theorem dX11_choices_78 : decode cX11_choices 78 = .ok (.iinc 6 1, 3) := by decide +kernel
theorem dX11_choices_81 : decode cX11_choices 81 = .ok (.goto (-42), 3) := by decide +kernel
theorem dX11_choices_84 : decode cX11_choices 84 = .ok (.iload 5, 2) := by decide +kernel
theorem dX11_choices_86 : decode cX11_choices 86 = .ok (.ireturn, 1) := by decide +kernel
theorem dX11_stands_0 : decode cX11_stands 0 = .ok (.aload_n 0, 1) := by decide +kernel
theorem dX11_stands_1 : decode cX11_stands 1 = .ok (.iload_n 1, 1) := by decide +kernel
theorem dX11_stands_2 : decode cX11_stands 2 = .ok (.iload_n 2, 1) := by decide +kernel
theorem dX11_stands_3 : decode cX11_stands 3 = .ok (.invokevirtual 214, 3) := by decide +kernel
theorem dX11_stands_6 : decode cX11_stands 6 = .ok (.aload_n 0, 1) := by decide +kernel
theorem dX11_stands_7 : decode cX11_stands 7 = .ok (.getfield 32, 3) := by decide +kernel
theorem dX11_stands_10 : decode cX11_stands 10 = .ok (.iload_n 1, 1) := by decide +kernel
theorem dX11_stands_11 : decode cX11_stands 11 = .ok (.aaload, 1) := by decide +kernel
theorem dX11_stands_12 : decode cX11_stands 12 = .ok (.iload_n 2, 1) := by decide +kernel
theorem dX11_stands_13 : decode cX11_stands 13 = .ok (.invokevirtual 217, 3) := by decide +kernel
theorem dX11_stands_16 : decode cX11_stands 16 = .ok (.getfield 207, 3) := by decide +kernel
theorem dX11_stands_19 : decode cX11_stands 19 = .ok (.ireturn, 1) := by decide +kernel
theorem dX11_fault_0 : decode cX11_fault 0 = .ok (.aload_n 0, 1) := by decide +kernel
theorem dX11_fault_1 : decode cX11_fault 1 = .ok (.iload_n 1, 1) := by decide +kernel
theorem dX11_fault_2 : decode cX11_fault 2 = .ok (.iload_n 2, 1) := by decide +kernel
theorem dX11_fault_3 : decode cX11_fault 3 = .ok (.invokevirtual 214, 3) := by decide +kernel
theorem dX11_fault_6 : decode cX11_fault 6 = .ok (.aload_n 0, 1) := by decide +kernel
theorem dX11_fault_7 : decode cX11_fault 7 = .ok (.aload_n 0, 1) := by decide +kernel
theorem dX11_fault_8 : decode cX11_fault 8 = .ok (.getfield 32, 3) := by decide +kernel
theorem dX11_fault_11 : decode cX11_fault 11 = .ok (.iload_n 1, 1) := by decide +kernel
theorem dX11_fault_12 : decode cX11_fault 12 = .ok (.aaload, 1) := by decide +kernel
theorem dX11_fault_13 : decode cX11_fault 13 = .ok (.iload_n 2, 1) := by decide +kernel
theorem dX11_fault_14 : decode cX11_fault 14 = .ok (.invokevirtual 217, 3) := by decide +kernel
theorem dX11_fault_17 : decode cX11_fault 17 = .ok (.invokevirtual 203, 3) := by decide +kernel
theorem dX11_fault_20 : decode cX11_fault 20 = .ok (.ireturn, 1) := by decide +kernel
theorem dX11_standing_0 : decode cX11_standing 0 = .ok (.iconst 0, 1) := by decide +kernel
theorem dX11_standing_1 : decode cX11_standing 1 = .ok (.istore_n 1, 1) := by decide +kernel
theorem dX11_standing_2 : decode cX11_standing 2 = .ok (.iconst 0, 1) := by decide +kernel
theorem dX11_standing_3 : decode cX11_standing 3 = .ok (.istore_n 2, 1) := by decide +kernel
theorem dX11_standing_4 : decode cX11_standing 4 = .ok (.iload_n 2, 1) := by decide +kernel
theorem dX11_standing_5 : decode cX11_standing 5 = .ok (.bipush 6, 2) := by decide +kernel
theorem dX11_standing_7 : decode cX11_standing 7 = .ok (.if_icmp .ge 21, 3) := by decide +kernel
theorem dX11_standing_10 : decode cX11_standing 10 = .ok (.iload_n 1, 1) := by decide +kernel
theorem dX11_standing_11 : decode cX11_standing 11 = .ok (.aload_n 0, 1) := by decide +kernel
theorem dX11_standing_12 : decode cX11_standing 12 = .ok (.getfield 32, 3) := by decide +kernel
theorem dX11_standing_15 : decode cX11_standing 15 = .ok (.iload_n 2, 1) := by decide +kernel
theorem dX11_standing_16 : decode cX11_standing 16 = .ok (.aaload, 1) := by decide +kernel
theorem dX11_standing_17 : decode cX11_standing 17 = .ok (.invokevirtual 315, 3) := by decide +kernel
theorem dX11_standing_20 : decode cX11_standing 20 = .ok (.iadd, 1) := by decide +kernel
theorem dX11_standing_21 : decode cX11_standing 21 = .ok (.istore_n 1, 1) := by decide +kernel
theorem dX11_standing_22 : decode cX11_standing 22 = .ok (.iinc 2 1, 3) := by decide +kernel
theorem dX11_standing_25 : decode cX11_standing 25 = .ok (.goto (-21), 3) := by decide +kernel
theorem dX11_standing_28 : decode cX11_standing 28 = .ok (.iload_n 1, 1) := by decide +kernel
theorem dX11_standing_29 : decode cX11_standing 29 = .ok (.ireturn, 1) := by decide +kernel
theorem dX11_pieceOf_0 : decode cX11_pieceOf 0 = .ok (.aload_n 0, 1) := by decide +kernel
theorem dX11_pieceOf_1 : decode cX11_pieceOf 1 = .ok (.iload_n 1, 1) := by decide +kernel
theorem dX11_pieceOf_2 : decode cX11_pieceOf 2 = .ok (.iload_n 2, 1) := by decide +kernel
theorem dX11_pieceOf_3 : decode cX11_pieceOf 3 = .ok (.invokevirtual 214, 3) := by decide +kernel
theorem dX11_pieceOf_6 : decode cX11_pieceOf 6 = .ok (.aload_n 0, 1) := by decide +kernel
theorem dX11_pieceOf_7 : decode cX11_pieceOf 7 = .ok (.getfield 32, 3) := by decide +kernel
theorem dX11_pieceOf_10 : decode cX11_pieceOf 10 = .ok (.iload_n 1, 1) := by decide +kernel
theorem dX11_pieceOf_11 : decode cX11_pieceOf 11 = .ok (.aaload, 1) := by decide +kernel
theorem dX11_pieceOf_12 : decode cX11_pieceOf 12 = .ok (.iload_n 2, 1) := by decide +kernel
theorem dX11_pieceOf_13 : decode cX11_pieceOf 13 = .ok (.invokevirtual 217, 3) := by decide +kernel
theorem dX11_pieceOf_16 : decode cX11_pieceOf 16 = .ok (.getfield 318, 3) := by decide +kernel
theorem dX11_pieceOf_19 : decode cX11_pieceOf 19 = .ok (.ireturn, 1) := by decide +kernel
theorem dX11_part_0 : decode cX11_part 0 = .ok (.aload_n 0, 1) := by decide +kernel
theorem dX11_part_1 : decode cX11_part 1 = .ok (.iload_n 1, 1) := by decide +kernel
theorem dX11_part_2 : decode cX11_part 2 = .ok (.iload_n 2, 1) := by decide +kernel
theorem dX11_part_3 : decode cX11_part 3 = .ok (.invokevirtual 214, 3) := by decide +kernel
theorem dX11_part_6 : decode cX11_part 6 = .ok (.iload_n 3, 1) := by decide +kernel
theorem dX11_part_7 : decode cX11_part 7 = .ok (.invokestatic 249, 3) := by decide +kernel
theorem dX11_part_10 : decode cX11_part 10 = .ok (.aload_n 0, 1) := by decide +kernel
theorem dX11_part_11 : decode cX11_part 11 = .ok (.getfield 32, 3) := by decide +kernel
theorem dX11_part_14 : decode cX11_part 14 = .ok (.iload_n 1, 1) := by decide +kernel
theorem dX11_part_15 : decode cX11_part 15 = .ok (.aaload, 1) := by decide +kernel
theorem dX11_part_16 : decode cX11_part 16 = .ok (.iload_n 2, 1) := by decide +kernel
theorem dX11_part_17 : decode cX11_part 17 = .ok (.invokevirtual 217, 3) := by decide +kernel
theorem dX11_part_20 : decode cX11_part 20 = .ok (.getfield 221, 3) := by decide +kernel
theorem dX11_part_23 : decode cX11_part 23 = .ok (.iload_n 3, 1) := by decide +kernel
theorem dX11_part_24 : decode cX11_part 24 = .ok (.iaload, 1) := by decide +kernel
theorem dX11_part_25 : decode cX11_part 25 = .ok (.ireturn, 1) := by decide +kernel
theorem dX11_seal_0 : decode cX11_seal 0 = .ok (.aload_n 0, 1) := by decide +kernel
theorem dX11_seal_1 : decode cX11_seal 1 = .ok (.iload_n 1, 1) := by decide +kernel
theorem dX11_seal_2 : decode cX11_seal 2 = .ok (.iload_n 2, 1) := by decide +kernel
theorem dX11_seal_3 : decode cX11_seal 3 = .ok (.invokevirtual 214, 3) := by decide +kernel
theorem dX11_seal_6 : decode cX11_seal 6 = .ok (.aload_n 0, 1) := by decide +kernel
theorem dX11_seal_7 : decode cX11_seal 7 = .ok (.getfield 32, 3) := by decide +kernel
theorem dX11_seal_10 : decode cX11_seal 10 = .ok (.iload_n 1, 1) := by decide +kernel
theorem dX11_seal_11 : decode cX11_seal 11 = .ok (.aaload, 1) := by decide +kernel
theorem dX11_seal_12 : decode cX11_seal 12 = .ok (.iload_n 2, 1) := by decide +kernel
theorem dX11_seal_13 : decode cX11_seal 13 = .ok (.invokevirtual 217, 3) := by decide +kernel
theorem dX11_seal_16 : decode cX11_seal 16 = .ok (.getfield 321, 3) := by decide +kernel
theorem dX11_seal_19 : decode cX11_seal 19 = .ok (.ireturn, 1) := by decide +kernel
theorem dX11_broken_0 : decode cX11_broken 0 = .ok (.iload_n 1, 1) := by decide +kernel
theorem dX11_broken_1 : decode cX11_broken 1 = .ok (.invokestatic 99, 3) := by decide +kernel
theorem dX11_broken_4 : decode cX11_broken 4 = .ok (.aload_n 0, 1) := by decide +kernel
theorem dX11_broken_5 : decode cX11_broken 5 = .ok (.getfield 32, 3) := by decide +kernel
theorem dX11_broken_8 : decode cX11_broken 8 = .ok (.iload_n 1, 1) := by decide +kernel
theorem dX11_broken_9 : decode cX11_broken 9 = .ok (.aaload, 1) := by decide +kernel
theorem dX11_broken_10 : decode cX11_broken 10 = .ok (.invokevirtual 324, 3) := by decide +kernel
theorem dX11_broken_13 : decode cX11_broken 13 = .ok (.ireturn, 1) := by decide +kernel
theorem dX11_size_0 : decode cX11_size 0 = .ok (.aload_n 0, 1) := by decide +kernel
theorem dX11_size_1 : decode cX11_size 1 = .ok (.iload_n 1, 1) := by decide +kernel
theorem dX11_size_2 : decode cX11_size 2 = .ok (.invokevirtual 327, 3) := by decide +kernel
theorem dX11_size_5 : decode cX11_size 5 = .ok (.aload_n 0, 1) := by decide +kernel
theorem dX11_size_6 : decode cX11_size 6 = .ok (.getfield 39, 3) := by decide +kernel
theorem dX11_size_9 : decode cX11_size 9 = .ok (.iload_n 1, 1) := by decide +kernel
theorem dX11_size_10 : decode cX11_size 10 = .ok (.invokevirtual 121, 3) := by decide +kernel
theorem dX11_size_13 : decode cX11_size 13 = .ok (.checkcast 233, 3) := by decide +kernel
theorem dX11_size_16 : decode cX11_size 16 = .ok (.getfield 330, 3) := by decide +kernel
theorem dX11_size_19 : decode cX11_size 19 = .ok (.ireturn, 1) := by decide +kernel
theorem dX11_copied_0 : decode cX11_copied 0 = .ok (.aload_n 0, 1) := by decide +kernel
theorem dX11_copied_1 : decode cX11_copied 1 = .ok (.iload_n 1, 1) := by decide +kernel
theorem dX11_copied_2 : decode cX11_copied 2 = .ok (.iload_n 2, 1) := by decide +kernel
theorem dX11_copied_3 : decode cX11_copied 3 = .ok (.invokevirtual 246, 3) := by decide +kernel
theorem dX11_copied_6 : decode cX11_copied 6 = .ok (.iload_n 3, 1) := by decide +kernel
theorem dX11_copied_7 : decode cX11_copied 7 = .ok (.invokestatic 249, 3) := by decide +kernel
theorem dX11_copied_10 : decode cX11_copied 10 = .ok (.aload_n 0, 1) := by decide +kernel
theorem dX11_copied_11 : decode cX11_copied 11 = .ok (.getfield 39, 3) := by decide +kernel
theorem dX11_copied_14 : decode cX11_copied 14 = .ok (.iload_n 1, 1) := by decide +kernel
theorem dX11_copied_15 : decode cX11_copied 15 = .ok (.invokevirtual 121, 3) := by decide +kernel
theorem dX11_copied_18 : decode cX11_copied 18 = .ok (.checkcast 233, 3) := by decide +kernel
theorem dX11_copied_21 : decode cX11_copied 21 = .ok (.astore 4, 2) := by decide +kernel
theorem dX11_copied_23 : decode cX11_copied 23 = .ok (.aload 4, 2) := by decide +kernel
theorem dX11_copied_25 : decode cX11_copied 25 = .ok (.iload_n 3, 1) := by decide +kernel
theorem dX11_copied_26 : decode cX11_copied 26 = .ok (.invokevirtual 252, 3) := by decide +kernel
theorem dX11_copied_29 : decode cX11_copied 29 = .ok (.ifCond .eq 7, 3) := by decide +kernel
theorem dX11_copied_32 : decode cX11_copied 32 = .ok (.iconst (-1), 1) := by decide +kernel
theorem dX11_copied_33 : decode cX11_copied 33 = .ok (.goto 12, 3) := by decide +kernel
theorem dX11_copied_36 : decode cX11_copied 36 = .ok (.aload 4, 2) := by decide +kernel
theorem dX11_copied_38 : decode cX11_copied 38 = .ok (.getfield 257, 3) := by decide +kernel
theorem dX11_copied_41 : decode cX11_copied 41 = .ok (.iload_n 2, 1) := by decide +kernel
theorem dX11_copied_42 : decode cX11_copied 42 = .ok (.aaload, 1) := by decide +kernel
theorem dX11_copied_43 : decode cX11_copied 43 = .ok (.iload_n 3, 1) := by decide +kernel
theorem dX11_copied_44 : decode cX11_copied 44 = .ok (.iaload, 1) := by decide +kernel
theorem dX11_copied_45 : decode cX11_copied 45 = .ok (.ireturn, 1) := by decide +kernel
theorem dX11_brokenCopy_0 : decode cX11_brokenCopy 0 = .ok (.aload_n 0, 1) := by decide +kernel
theorem dX11_brokenCopy_1 : decode cX11_brokenCopy 1 = .ok (.iload_n 1, 1) := by decide +kernel
theorem dX11_brokenCopy_2 : decode cX11_brokenCopy 2 = .ok (.invokevirtual 327, 3) := by decide +kernel
theorem dX11_brokenCopy_5 : decode cX11_brokenCopy 5 = .ok (.aload_n 0, 1) := by decide +kernel
theorem dX11_brokenCopy_6 : decode cX11_brokenCopy 6 = .ok (.getfield 39, 3) := by decide +kernel
theorem dX11_brokenCopy_9 : decode cX11_brokenCopy 9 = .ok (.iload_n 1, 1) := by decide +kernel
theorem dX11_brokenCopy_10 : decode cX11_brokenCopy 10 = .ok (.invokevirtual 121, 3) := by decide +kernel
theorem dX11_brokenCopy_13 : decode cX11_brokenCopy 13 = .ok (.checkcast 233, 3) := by decide +kernel
theorem dX11_brokenCopy_16 : decode cX11_brokenCopy 16 = .ok (.invokevirtual 333, 3) := by decide +kernel
theorem dX11_brokenCopy_19 : decode cX11_brokenCopy 19 = .ok (.ireturn, 1) := by decide +kernel
theorem dX11_isTrue_0 : decode cX11_isTrue 0 = .ok (.aload_n 0, 1) := by decide +kernel
theorem dX11_isTrue_1 : decode cX11_isTrue 1 = .ok (.iload_n 1, 1) := by decide +kernel
theorem dX11_isTrue_2 : decode cX11_isTrue 2 = .ok (.invokevirtual 327, 3) := by decide +kernel
theorem dX11_isTrue_5 : decode cX11_isTrue 5 = .ok (.aload_n 0, 1) := by decide +kernel
theorem dX11_isTrue_6 : decode cX11_isTrue 6 = .ok (.getfield 39, 3) := by decide +kernel
theorem dX11_isTrue_9 : decode cX11_isTrue 9 = .ok (.iload_n 1, 1) := by decide +kernel
theorem dX11_isTrue_10 : decode cX11_isTrue 10 = .ok (.invokevirtual 121, 3) := by decide +kernel
theorem dX11_isTrue_13 : decode cX11_isTrue 13 = .ok (.checkcast 233, 3) := by decide +kernel
theorem dX11_isTrue_16 : decode cX11_isTrue 16 = .ok (.astore_n 2, 1) := by decide +kernel
theorem dX11_isTrue_17 : decode cX11_isTrue 17 = .ok (.aload_n 2, 1) := by decide +kernel
theorem dX11_isTrue_18 : decode cX11_isTrue 18 = .ok (.aload_n 0, 1) := by decide +kernel
theorem dX11_isTrue_19 : decode cX11_isTrue 19 = .ok (.getfield 32, 3) := by decide +kernel
theorem dX11_isTrue_22 : decode cX11_isTrue 22 = .ok (.aload_n 2, 1) := by decide +kernel
theorem dX11_isTrue_23 : decode cX11_isTrue 23 = .ok (.getfield 334, 3) := by decide +kernel
theorem dX11_isTrue_26 : decode cX11_isTrue 26 = .ok (.aaload, 1) := by decide +kernel
theorem dX11_isTrue_27 : decode cX11_isTrue 27 = .ok (.invokevirtual 335, 3) := by decide +kernel
theorem dX11_isTrue_30 : decode cX11_isTrue 30 = .ok (.ireturn, 1) := by decide +kernel
theorem dX11_makePower_0 : decode cX11_makePower 0 = .ok (.new 125, 3) := by decide +kernel
theorem dX11_makePower_3 : decode cX11_makePower 3 = .ok (.dup, 1) := by decide +kernel
theorem dX11_makePower_4 : decode cX11_makePower 4 = .ok (.aload_n 0, 1) := by decide +kernel
theorem dX11_makePower_5 : decode cX11_makePower 5 = .ok (.getfield 26, 3) := by decide +kernel
theorem dX11_makePower_8 : decode cX11_makePower 8 = .ok (.invokevirtual 227, 3) := by decide +kernel
theorem dX11_makePower_11 : decode cX11_makePower 11 = .ok (.aload_n 2, 1) := by decide +kernel
theorem dX11_makePower_12 : decode cX11_makePower 12 = .ok (.iload_n 3, 1) := by decide +kernel
theorem dX11_makePower_13 : decode cX11_makePower 13 = .ok (.iload 4, 2) := by decide +kernel
theorem dX11_makePower_15 : decode cX11_makePower 15 = .ok (.aload_n 0, 1) := by decide +kernel
theorem dX11_makePower_16 : decode cX11_makePower 16 = .ok (.getfield 52, 3) := by decide +kernel
theorem dX11_makePower_19 : decode cX11_makePower 19 = .ok (.aload_n 0, 1) := by decide +kernel
theorem dX11_makePower_20 : decode cX11_makePower 20 = .ok (.getfield 42, 3) := by decide +kernel
theorem dX11_makePower_23 : decode cX11_makePower 23 = .ok (.invokespecial 339, 3) := by decide +kernel
theorem dX11_makePower_26 : decode cX11_makePower 26 = .ok (.astore 5, 2) := by decide +kernel
theorem dX11_makePower_28 : decode cX11_makePower 28 = .ok (.aload_n 0, 1) := by decide +kernel
theorem dX11_makePower_29 : decode cX11_makePower 29 = .ok (.getfield 26, 3) := by decide +kernel
theorem dX11_makePower_32 : decode cX11_makePower 32 = .ok (.aload 5, 2) := by decide +kernel
theorem dX11_makePower_34 : decode cX11_makePower 34 = .ok (.invokevirtual 242, 3) := by decide +kernel
theorem dX11_makePower_37 : decode cX11_makePower 37 = .ok (.pop, 1) := by decide +kernel
theorem dX11_makePower_38 : decode cX11_makePower 38 = .ok (.aload_n 0, 1) := by decide +kernel
theorem dX11_makePower_39 : decode cX11_makePower 39 = .ok (.getfield 19, 3) := by decide +kernel
theorem dX11_makePower_42 : decode cX11_makePower 42 = .ok (.aload 5, 2) := by decide +kernel
theorem dX11_makePower_44 : decode cX11_makePower 44 = .ok (.iload_n 1, 1) := by decide +kernel
theorem dX11_makePower_45 : decode cX11_makePower 45 = .ok (.aload_n 0, 1) := by decide +kernel
theorem dX11_makePower_46 : decode cX11_makePower 46 = .ok (.getfield 42, 3) := by decide +kernel
theorem dX11_makePower_49 : decode cX11_makePower 49 = .ok (.invokevirtual 171, 3) := by decide +kernel
theorem dX11_makePower_52 : decode cX11_makePower 52 = .ok (.pop, 1) := by decide +kernel
theorem dX11_makePower_53 : decode cX11_makePower 53 = .ok (.aload 5, 2) := by decide +kernel
theorem dX11_makePower_55 : decode cX11_makePower 55 = .ok (.getfield 300, 3) := by decide +kernel
theorem dX11_makePower_58 : decode cX11_makePower 58 = .ok (.ireturn, 1) := by decide +kernel
theorem dX11_deedNow_0 : decode cX11_deedNow 0 = .ok (.new 342, 3) := by decide +kernel
theorem dX11_deedNow_3 : decode cX11_deedNow 3 = .ok (.dup, 1) := by decide +kernel
theorem dX11_deedNow_4 : decode cX11_deedNow 4 = .ok (.iload_n 1, 1) := by decide +kernel
theorem dX11_deedNow_5 : decode cX11_deedNow 5 = .ok (.aload_n 0, 1) := by decide +kernel
theorem dX11_deedNow_6 : decode cX11_deedNow 6 = .ok (.getfield 42, 3) := by decide +kernel
theorem dX11_deedNow_9 : decode cX11_deedNow 9 = .ok (.iload_n 2, 1) := by decide +kernel
theorem dX11_deedNow_10 : decode cX11_deedNow 10 = .ok (.aload_n 0, 1) := by decide +kernel
theorem dX11_deedNow_11 : decode cX11_deedNow 11 = .ok (.getfield 59, 3) := by decide +kernel
theorem dX11_deedNow_14 : decode cX11_deedNow 14 = .ok (.iload_n 3, 1) := by decide +kernel
theorem dX11_deedNow_15 : decode cX11_deedNow 15 = .ok (.aload_n 0, 1) := by decide +kernel
theorem dX11_deedNow_16 : decode cX11_deedNow 16 = .ok (.getfield 56, 3) := by decide +kernel
theorem dX11_deedNow_19 : decode cX11_deedNow 19 = .ok (.invokespecial 344, 3) := by decide +kernel
theorem dX11_deedNow_22 : decode cX11_deedNow 22 = .ok (.areturn, 1) := by decide +kernel
theorem dX11_isGoodAt_0 : decode cX11_isGoodAt 0 = .ok (.aload_n 0, 1) := by decide +kernel
theorem dX11_isGoodAt_1 : decode cX11_isGoodAt 1 = .ok (.getfield 19, 3) := by decide +kernel
theorem dX11_isGoodAt_4 : decode cX11_isGoodAt 4 = .ok (.iload_n 1, 1) := by decide +kernel
theorem dX11_isGoodAt_5 : decode cX11_isGoodAt 5 = .ok (.invokevirtual 154, 3) := by decide +kernel
theorem dX11_isGoodAt_8 : decode cX11_isGoodAt 8 = .ok (.aload_n 0, 1) := by decide +kernel
theorem dX11_isGoodAt_9 : decode cX11_isGoodAt 9 = .ok (.getfield 19, 3) := by decide +kernel
theorem dX11_isGoodAt_12 : decode cX11_isGoodAt 12 = .ok (.aload_n 2, 1) := by decide +kernel
theorem dX11_isGoodAt_13 : decode cX11_isGoodAt 13 = .ok (.invokevirtual 157, 3) := by decide +kernel
theorem dX11_isGoodAt_16 : decode cX11_isGoodAt 16 = .ok (.ifCond .eq 29, 3) := by decide +kernel
theorem dX11_isGoodAt_19 : decode cX11_isGoodAt 19 = .ok (.aload_n 0, 1) := by decide +kernel
theorem dX11_isGoodAt_20 : decode cX11_isGoodAt 20 = .ok (.getfield 19, 3) := by decide +kernel
theorem dX11_isGoodAt_23 : decode cX11_isGoodAt 23 = .ok (.aload_n 2, 1) := by decide +kernel
theorem dX11_isGoodAt_24 : decode cX11_isGoodAt 24 = .ok (.invokevirtual 161, 3) := by decide +kernel
theorem dX11_isGoodAt_27 : decode cX11_isGoodAt 27 = .ok (.ifCond .ne 18, 3) := by decide +kernel
theorem dX11_isGoodAt_30 : decode cX11_isGoodAt 30 = .ok (.aload_n 2, 1) := by decide +kernel
theorem dX11_isGoodAt_31 : decode cX11_isGoodAt 31 = .ok (.aload_n 0, 1) := by decide +kernel
theorem dX11_isGoodAt_32 : decode cX11_isGoodAt 32 = .ok (.getfield 42, 3) := by decide +kernel
theorem dX11_isGoodAt_35 : decode cX11_isGoodAt 35 = .ok (.invokevirtual 347, 3) := by decide +kernel
theorem dX11_isGoodAt_38 : decode cX11_isGoodAt 38 = .ok (.ifCond .ne 7, 3) := by decide +kernel
theorem dX11_isGoodAt_41 : decode cX11_isGoodAt 41 = .ok (.iconst 1, 1) := by decide +kernel
theorem dX11_isGoodAt_42 : decode cX11_isGoodAt 42 = .ok (.goto 4, 3) := by decide +kernel
theorem dX11_isGoodAt_45 : decode cX11_isGoodAt 45 = .ok (.iconst 0, 1) := by decide +kernel
theorem dX11_isGoodAt_46 : decode cX11_isGoodAt 46 = .ok (.ireturn, 1) := by decide +kernel
theorem dX11_reasonByMail_0 : decode cX11_reasonByMail 0 = .ok (.aload_n 0, 1) := by decide +kernel
theorem dX11_reasonByMail_1 : decode cX11_reasonByMail 1 = .ok (.getfield 19, 3) := by decide +kernel
theorem dX11_reasonByMail_4 : decode cX11_reasonByMail 4 = .ok (.aload_n 1, 1) := by decide +kernel
theorem dX11_reasonByMail_5 : decode cX11_reasonByMail 5 = .ok (.invokevirtual 350, 3) := by decide +kernel
theorem dX11_reasonByMail_8 : decode cX11_reasonByMail 8 = .ok (.aload_n 0, 1) := by decide +kernel
theorem dX11_reasonByMail_9 : decode cX11_reasonByMail 9 = .ok (.getfield 19, 3) := by decide +kernel
theorem dX11_reasonByMail_12 : decode cX11_reasonByMail 12 = .ok (.aload_n 1, 1) := by decide +kernel
theorem dX11_reasonByMail_13 : decode cX11_reasonByMail 13 = .ok (.getfield 354, 3) := by decide +kernel
theorem dX11_reasonByMail_16 : decode cX11_reasonByMail 16 = .ok (.aload_n 1, 1) := by decide +kernel
theorem dX11_reasonByMail_17 : decode cX11_reasonByMail 17 = .ok (.getfield 357, 3) := by decide +kernel
theorem dX11_reasonByMail_20 : decode cX11_reasonByMail 20 = .ok (.invokevirtual 192, 3) := by decide +kernel
theorem dX11_reasonByMail_23 : decode cX11_reasonByMail 23 = .ok (.ireturn, 1) := by decide +kernel
theorem dX11_mustBeKiosk_0 : decode cX11_mustBeKiosk 0 = .ok (.iload_n 0, 1) := by decide +kernel
theorem dX11_mustBeKiosk_1 : decode cX11_mustBeKiosk 1 = .ok (.ifCond .lt 9, 3) := by decide +kernel
theorem dX11_mustBeKiosk_4 : decode cX11_mustBeKiosk 4 = .ok (.iload_n 0, 1) := by decide +kernel
theorem dX11_mustBeKiosk_5 : decode cX11_mustBeKiosk 5 = .ok (.bipush 6, 2) := by decide +kernel
theorem dX11_mustBeKiosk_7 : decode cX11_mustBeKiosk 7 = .ok (.if_icmp .lt 14, 3) := by decide +kernel
theorem dX11_mustBeKiosk_10 : decode cX11_mustBeKiosk 10 = .ok (.new 361, 3) := by decide +kernel
theorem dX11_mustBeKiosk_13 : decode cX11_mustBeKiosk 13 = .ok (.dup, 1) := by decide +kernel
theorem dX11_mustBeKiosk_14 : decode cX11_mustBeKiosk 14 = .ok (.ldc_w 363, 3) := by decide +kernel
theorem dX11_mustBeKiosk_17 : decode cX11_mustBeKiosk 17 = .ok (.invokespecial 365, 3) := by decide +kernel
theorem dX11_mustBeKiosk_20 : decode cX11_mustBeKiosk 20 = .ok (.athrow, 1) := by decide +kernel
theorem dX11_mustBeKiosk_21 : decode cX11_mustBeKiosk 21 = .ok (.return_, 1) := by decide +kernel
theorem dX11_mustBeTwoKiosks_0 : decode cX11_mustBeTwoKiosks 0 = .ok (.iload_n 0, 1) := by decide +kernel
theorem dX11_mustBeTwoKiosks_1 : decode cX11_mustBeTwoKiosks 1 = .ok (.invokestatic 99, 3) := by decide +kernel
theorem dX11_mustBeTwoKiosks_4 : decode cX11_mustBeTwoKiosks 4 = .ok (.iload_n 1, 1) := by decide +kernel
theorem dX11_mustBeTwoKiosks_5 : decode cX11_mustBeTwoKiosks 5 = .ok (.invokestatic 99, 3) := by decide +kernel
theorem dX11_mustBeTwoKiosks_8 : decode cX11_mustBeTwoKiosks 8 = .ok (.iload_n 0, 1) := by decide +kernel
theorem dX11_mustBeTwoKiosks_9 : decode cX11_mustBeTwoKiosks 9 = .ok (.iload_n 1, 1) := by decide +kernel
theorem dX11_mustBeTwoKiosks_10 : decode cX11_mustBeTwoKiosks 10 = .ok (.if_icmp .ne 14, 3) := by decide +kernel
theorem dX11_mustBeTwoKiosks_13 : decode cX11_mustBeTwoKiosks 13 = .ok (.new 134, 3) := by decide +kernel
theorem dX11_mustBeTwoKiosks_16 : decode cX11_mustBeTwoKiosks 16 = .ok (.dup, 1) := by decide +kernel
theorem dX11_mustBeTwoKiosks_17 : decode cX11_mustBeTwoKiosks 17 = .ok (.ldc_w 366, 3) := by decide +kernel
theorem dX11_mustBeTwoKiosks_20 : decode cX11_mustBeTwoKiosks 20 = .ok (.invokespecial 138, 3) := by decide +kernel
theorem dX11_mustBeTwoKiosks_23 : decode cX11_mustBeTwoKiosks 23 = .ok (.athrow, 1) := by decide +kernel
theorem dX11_mustBeTwoKiosks_24 : decode cX11_mustBeTwoKiosks 24 = .ok (.return_, 1) := by decide +kernel
theorem dX11_mustBePerson_0 : decode cX11_mustBePerson 0 = .ok (.iload_n 0, 1) := by decide +kernel
theorem dX11_mustBePerson_1 : decode cX11_mustBePerson 1 = .ok (.ifCond .lt 9, 3) := by decide +kernel
theorem dX11_mustBePerson_4 : decode cX11_mustBePerson 4 = .ok (.iload_n 0, 1) := by decide +kernel
theorem dX11_mustBePerson_5 : decode cX11_mustBePerson 5 = .ok (.bipush 10, 2) := by decide +kernel
theorem dX11_mustBePerson_7 : decode cX11_mustBePerson 7 = .ok (.if_icmp .lt 14, 3) := by decide +kernel
theorem dX11_mustBePerson_10 : decode cX11_mustBePerson 10 = .ok (.new 361, 3) := by decide +kernel
theorem dX11_mustBePerson_13 : decode cX11_mustBePerson 13 = .ok (.dup, 1) := by decide +kernel
theorem dX11_mustBePerson_14 : decode cX11_mustBePerson 14 = .ok (.ldc_w 368, 3) := by decide +kernel
theorem dX11_mustBePerson_17 : decode cX11_mustBePerson 17 = .ok (.invokespecial 365, 3) := by decide +kernel
theorem dX11_mustBePerson_20 : decode cX11_mustBePerson 20 = .ok (.athrow, 1) := by decide +kernel
theorem dX11_mustBePerson_21 : decode cX11_mustBePerson 21 = .ok (.return_, 1) := by decide +kernel
theorem dX11_mustBeOtherPerson_0 : decode cX11_mustBeOtherPerson 0 = .ok (.iload_n 0, 1) := by decide +kernel
theorem dX11_mustBeOtherPerson_1 : decode cX11_mustBeOtherPerson 1 = .ok (.iload_n 1, 1) := by decide +kernel
theorem dX11_mustBeOtherPerson_2 : decode cX11_mustBeOtherPerson 2 = .ok (.if_icmp .ne 14, 3) := by decide +kernel
theorem dX11_mustBeOtherPerson_5 : decode cX11_mustBeOtherPerson 5 = .ok (.new 134, 3) := by decide +kernel
theorem dX11_mustBeOtherPerson_8 : decode cX11_mustBeOtherPerson 8 = .ok (.dup, 1) := by decide +kernel
theorem dX11_mustBeOtherPerson_9 : decode cX11_mustBeOtherPerson 9 = .ok (.ldc_w 370, 3) := by decide +kernel
theorem dX11_mustBeOtherPerson_12 : decode cX11_mustBeOtherPerson 12 = .ok (.invokespecial 138, 3) := by decide +kernel
theorem dX11_mustBeOtherPerson_15 : decode cX11_mustBeOtherPerson 15 = .ok (.athrow, 1) := by decide +kernel
theorem dX11_mustBeOtherPerson_16 : decode cX11_mustBeOtherPerson 16 = .ok (.return_, 1) := by decide +kernel
theorem dX11_mustBePart_0 : decode cX11_mustBePart 0 = .ok (.iload_n 0, 1) := by decide +kernel
theorem dX11_mustBePart_1 : decode cX11_mustBePart 1 = .ok (.ifCond .lt 9, 3) := by decide +kernel
theorem dX11_mustBePart_4 : decode cX11_mustBePart 4 = .ok (.iload_n 0, 1) := by decide +kernel
theorem dX11_mustBePart_5 : decode cX11_mustBePart 5 = .ok (.bipush 6, 2) := by decide +kernel
theorem dX11_mustBePart_7 : decode cX11_mustBePart 7 = .ok (.if_icmp .lt 14, 3) := by decide +kernel
theorem dX11_mustBePart_10 : decode cX11_mustBePart 10 = .ok (.new 361, 3) := by decide +kernel
theorem dX11_mustBePart_13 : decode cX11_mustBePart 13 = .ok (.dup, 1) := by decide +kernel
theorem dX11_mustBePart_14 : decode cX11_mustBePart 14 = .ok (.ldc_w 372, 3) := by decide +kernel
theorem dX11_mustBePart_17 : decode cX11_mustBePart 17 = .ok (.invokespecial 365, 3) := by decide +kernel
theorem dX11_mustBePart_20 : decode cX11_mustBePart 20 = .ok (.athrow, 1) := by decide +kernel
theorem dX11_mustBePart_21 : decode cX11_mustBePart 21 = .ok (.return_, 1) := by decide +kernel
theorem dX11_mustBeWithin_0 : decode cX11_mustBeWithin 0 = .ok (.iload_n 0, 1) := by decide +kernel
theorem dX11_mustBeWithin_1 : decode cX11_mustBeWithin 1 = .ok (.iload_n 1, 1) := by decide +kernel
theorem dX11_mustBeWithin_2 : decode cX11_mustBeWithin 2 = .ok (.if_icmp .lt 8, 3) := by decide +kernel
theorem dX11_mustBeWithin_5 : decode cX11_mustBeWithin 5 = .ok (.iload_n 0, 1) := by decide +kernel
theorem dX11_mustBeWithin_6 : decode cX11_mustBeWithin 6 = .ok (.iload_n 2, 1) := by decide +kernel
theorem dX11_mustBeWithin_7 : decode cX11_mustBeWithin 7 = .ok (.if_icmp .le 14, 3) := by decide +kernel
theorem dX11_mustBeWithin_10 : decode cX11_mustBeWithin 10 = .ok (.new 134, 3) := by decide +kernel
theorem dX11_mustBeWithin_13 : decode cX11_mustBeWithin 13 = .ok (.dup, 1) := by decide +kernel
theorem dX11_mustBeWithin_14 : decode cX11_mustBeWithin 14 = .ok (.ldc_w 374, 3) := by decide +kernel
theorem dX11_mustBeWithin_17 : decode cX11_mustBeWithin 17 = .ok (.invokespecial 138, 3) := by decide +kernel
theorem dX11_mustBeWithin_20 : decode cX11_mustBeWithin 20 = .ok (.athrow, 1) := by decide +kernel
theorem dX11_mustBeWithin_21 : decode cX11_mustBeWithin 21 = .ok (.return_, 1) := by decide +kernel
theorem dX11_mustBePower_0 : decode cX11_mustBePower 0 = .ok (.iload_n 1, 1) := by decide +kernel
theorem dX11_mustBePower_1 : decode cX11_mustBePower 1 = .ok (.ifCond .lt 14, 3) := by decide +kernel
theorem dX11_mustBePower_4 : decode cX11_mustBePower 4 = .ok (.iload_n 1, 1) := by decide +kernel
theorem dX11_mustBePower_5 : decode cX11_mustBePower 5 = .ok (.aload_n 0, 1) := by decide +kernel
theorem dX11_mustBePower_6 : decode cX11_mustBePower 6 = .ok (.getfield 26, 3) := by decide +kernel
theorem dX11_mustBePower_9 : decode cX11_mustBePower 9 = .ok (.invokevirtual 227, 3) := by decide +kernel
theorem dX11_mustBePower_12 : decode cX11_mustBePower 12 = .ok (.if_icmp .lt 14, 3) := by decide +kernel
theorem dX11_mustBePower_15 : decode cX11_mustBePower 15 = .ok (.new 361, 3) := by decide +kernel
theorem dX11_mustBePower_18 : decode cX11_mustBePower 18 = .ok (.dup, 1) := by decide +kernel
theorem dX11_mustBePower_19 : decode cX11_mustBePower 19 = .ok (.ldc_w 376, 3) := by decide +kernel
theorem dX11_mustBePower_22 : decode cX11_mustBePower 22 = .ok (.invokespecial 365, 3) := by decide +kernel
theorem dX11_mustBePower_25 : decode cX11_mustBePower 25 = .ok (.athrow, 1) := by decide +kernel
theorem dX11_mustBePower_26 : decode cX11_mustBePower 26 = .ok (.return_, 1) := by decide +kernel
theorem dX11_mustBePiece_0 : decode cX11_mustBePiece 0 = .ok (.iload_n 1, 1) := by decide +kernel
theorem dX11_mustBePiece_1 : decode cX11_mustBePiece 1 = .ok (.ifCond .lt 14, 3) := by decide +kernel
theorem dX11_mustBePiece_4 : decode cX11_mustBePiece 4 = .ok (.iload_n 1, 1) := by decide +kernel
theorem dX11_mustBePiece_5 : decode cX11_mustBePiece 5 = .ok (.aload_n 0, 1) := by decide +kernel
theorem dX11_mustBePiece_6 : decode cX11_mustBePiece 6 = .ok (.getfield 19, 3) := by decide +kernel
theorem dX11_mustBePiece_9 : decode cX11_mustBePiece 9 = .ok (.invokevirtual 260, 3) := by decide +kernel
theorem dX11_mustBePiece_12 : decode cX11_mustBePiece 12 = .ok (.if_icmp .lt 14, 3) := by decide +kernel
theorem dX11_mustBePiece_15 : decode cX11_mustBePiece 15 = .ok (.new 361, 3) := by decide +kernel
theorem dX11_mustBePiece_18 : decode cX11_mustBePiece 18 = .ok (.dup, 1) := by decide +kernel
theorem dX11_mustBePiece_19 : decode cX11_mustBePiece 19 = .ok (.ldc_w 378, 3) := by decide +kernel
theorem dX11_mustBePiece_22 : decode cX11_mustBePiece 22 = .ok (.invokespecial 365, 3) := by decide +kernel
theorem dX11_mustBePiece_25 : decode cX11_mustBePiece 25 = .ok (.athrow, 1) := by decide +kernel
theorem dX11_mustBePiece_26 : decode cX11_mustBePiece 26 = .ok (.return_, 1) := by decide +kernel
theorem dX11_mustBeRecord_0 : decode cX11_mustBeRecord 0 = .ok (.iload_n 1, 1) := by decide +kernel
theorem dX11_mustBeRecord_1 : decode cX11_mustBeRecord 1 = .ok (.invokestatic 99, 3) := by decide +kernel
theorem dX11_mustBeRecord_4 : decode cX11_mustBeRecord 4 = .ok (.iload_n 2, 1) := by decide +kernel
theorem dX11_mustBeRecord_5 : decode cX11_mustBeRecord 5 = .ok (.ifCond .lt 16, 3) := by decide +kernel
theorem dX11_mustBeRecord_8 : decode cX11_mustBeRecord 8 = .ok (.iload_n 2, 1) := by decide +kernel
theorem dX11_mustBeRecord_9 : decode cX11_mustBeRecord 9 = .ok (.aload_n 0, 1) := by decide +kernel
theorem dX11_mustBeRecord_10 : decode cX11_mustBeRecord 10 = .ok (.getfield 32, 3) := by decide +kernel
theorem dX11_mustBeRecord_13 : decode cX11_mustBeRecord 13 = .ok (.iload_n 1, 1) := by decide +kernel
theorem dX11_mustBeRecord_14 : decode cX11_mustBeRecord 14 = .ok (.aaload, 1) := by decide +kernel
theorem dX11_mustBeRecord_15 : decode cX11_mustBeRecord 15 = .ok (.invokevirtual 263, 3) := by decide +kernel
theorem dX11_mustBeRecord_18 : decode cX11_mustBeRecord 18 = .ok (.if_icmp .lt 14, 3) := by decide +kernel
theorem dX11_mustBeRecord_21 : decode cX11_mustBeRecord 21 = .ok (.new 361, 3) := by decide +kernel
theorem dX11_mustBeRecord_24 : decode cX11_mustBeRecord 24 = .ok (.dup, 1) := by decide +kernel
theorem dX11_mustBeRecord_25 : decode cX11_mustBeRecord 25 = .ok (.ldc_w 380, 3) := by decide +kernel
theorem dX11_mustBeRecord_28 : decode cX11_mustBeRecord 28 = .ok (.invokespecial 365, 3) := by decide +kernel
theorem dX11_mustBeRecord_31 : decode cX11_mustBeRecord 31 = .ok (.athrow, 1) := by decide +kernel
theorem dX11_mustBeRecord_32 : decode cX11_mustBeRecord 32 = .ok (.return_, 1) := by decide +kernel
theorem dX11_mustBeCopy_0 : decode cX11_mustBeCopy 0 = .ok (.iload_n 1, 1) := by decide +kernel
theorem dX11_mustBeCopy_1 : decode cX11_mustBeCopy 1 = .ok (.ifCond .lt 14, 3) := by decide +kernel
theorem dX11_mustBeCopy_4 : decode cX11_mustBeCopy 4 = .ok (.iload_n 1, 1) := by decide +kernel
theorem dX11_mustBeCopy_5 : decode cX11_mustBeCopy 5 = .ok (.aload_n 0, 1) := by decide +kernel
theorem dX11_mustBeCopy_6 : decode cX11_mustBeCopy 6 = .ok (.getfield 39, 3) := by decide +kernel
theorem dX11_mustBeCopy_9 : decode cX11_mustBeCopy 9 = .ok (.invokevirtual 227, 3) := by decide +kernel
theorem dX11_mustBeCopy_12 : decode cX11_mustBeCopy 12 = .ok (.if_icmp .lt 14, 3) := by decide +kernel
theorem dX11_mustBeCopy_15 : decode cX11_mustBeCopy 15 = .ok (.new 361, 3) := by decide +kernel
theorem dX11_mustBeCopy_18 : decode cX11_mustBeCopy 18 = .ok (.dup, 1) := by decide +kernel
theorem dX11_mustBeCopy_19 : decode cX11_mustBeCopy 19 = .ok (.ldc_w 382, 3) := by decide +kernel
theorem dX11_mustBeCopy_22 : decode cX11_mustBeCopy 22 = .ok (.invokespecial 365, 3) := by decide +kernel
theorem dX11_mustBeCopy_25 : decode cX11_mustBeCopy 25 = .ok (.athrow, 1) := by decide +kernel
theorem dX11_mustBeCopy_26 : decode cX11_mustBeCopy 26 = .ok (.return_, 1) := by decide +kernel
theorem dX11_mustBePlace_0 : decode cX11_mustBePlace 0 = .ok (.aload_n 0, 1) := by decide +kernel
theorem dX11_mustBePlace_1 : decode cX11_mustBePlace 1 = .ok (.iload_n 1, 1) := by decide +kernel
theorem dX11_mustBePlace_2 : decode cX11_mustBePlace 2 = .ok (.invokevirtual 327, 3) := by decide +kernel
theorem dX11_mustBePlace_5 : decode cX11_mustBePlace 5 = .ok (.iload_n 2, 1) := by decide +kernel
theorem dX11_mustBePlace_6 : decode cX11_mustBePlace 6 = .ok (.ifCond .lt 21, 3) := by decide +kernel
theorem dX11_mustBePlace_9 : decode cX11_mustBePlace 9 = .ok (.iload_n 2, 1) := by decide +kernel
theorem dX11_mustBePlace_10 : decode cX11_mustBePlace 10 = .ok (.aload_n 0, 1) := by decide +kernel
theorem dX11_mustBePlace_11 : decode cX11_mustBePlace 11 = .ok (.getfield 39, 3) := by decide +kernel
theorem dX11_mustBePlace_14 : decode cX11_mustBePlace 14 = .ok (.iload_n 1, 1) := by decide +kernel
theorem dX11_mustBePlace_15 : decode cX11_mustBePlace 15 = .ok (.invokevirtual 121, 3) := by decide +kernel
theorem dX11_mustBePlace_18 : decode cX11_mustBePlace 18 = .ok (.checkcast 233, 3) := by decide +kernel
theorem dX11_mustBePlace_21 : decode cX11_mustBePlace 21 = .ok (.getfield 330, 3) := by decide +kernel
theorem dX11_mustBePlace_24 : decode cX11_mustBePlace 24 = .ok (.if_icmp .lt 14, 3) := by decide +kernel
theorem dX11_mustBePlace_27 : decode cX11_mustBePlace 27 = .ok (.new 361, 3) := by decide +kernel
theorem dX11_mustBePlace_30 : decode cX11_mustBePlace 30 = .ok (.dup, 1) := by decide +kernel
theorem dX11_mustBePlace_31 : decode cX11_mustBePlace 31 = .ok (.ldc_w 384, 3) := by decide +kernel
theorem dX11_mustBePlace_34 : decode cX11_mustBePlace 34 = .ok (.invokespecial 365, 3) := by decide +kernel
theorem dX11_mustBePlace_37 : decode cX11_mustBePlace 37 = .ok (.athrow, 1) := by decide +kernel
theorem dX11_mustBePlace_38 : decode cX11_mustBePlace 38 = .ok (.return_, 1) := by decide +kernel
theorem dX11_mustHaveRoomForNews_0 : decode cX11_mustHaveRoomForNews 0 = .ok (.aload_n 0, 1) := by decide +kernel
theorem dX11_mustHaveRoomForNews_1 : decode cX11_mustHaveRoomForNews 1 = .ok (.getfield 19, 3) := by decide +kernel
theorem dX11_mustHaveRoomForNews_4 : decode cX11_mustHaveRoomForNews 4 = .ok (.invokevirtual 260, 3) := by decide +kernel
theorem dX11_mustHaveRoomForNews_7 : decode cX11_mustHaveRoomForNews 7 = .ok (.sipush 160, 3) := by decide +kernel
theorem dX11_mustHaveRoomForNews_10 : decode cX11_mustHaveRoomForNews 10 = .ok (.if_icmp .lt 14, 3) := by decide +kernel
theorem dX11_mustHaveRoomForNews_13 : decode cX11_mustHaveRoomForNews 13 = .ok (.new 70, 3) := by decide +kernel
theorem dX11_mustHaveRoomForNews_16 : decode cX11_mustHaveRoomForNews 16 = .ok (.dup, 1) := by decide +kernel
theorem dX11_mustHaveRoomForNews_17 : decode cX11_mustHaveRoomForNews 17 = .ok (.ldc_w 386, 3) := by decide +kernel
theorem dX11_mustHaveRoomForNews_20 : decode cX11_mustHaveRoomForNews 20 = .ok (.invokespecial 74, 3) := by decide +kernel
theorem dX11_mustHaveRoomForNews_23 : decode cX11_mustHaveRoomForNews 23 = .ok (.athrow, 1) := by decide +kernel
theorem dX11_mustHaveRoomForNews_24 : decode cX11_mustHaveRoomForNews 24 = .ok (.return_, 1) := by decide +kernel
theorem dX11_mustHaveRoomForPower_0 : decode cX11_mustHaveRoomForPower 0 = .ok (.aload_n 0, 1) := by decide +kernel
theorem dX11_mustHaveRoomForPower_1 : decode cX11_mustHaveRoomForPower 1 = .ok (.getfield 26, 3) := by decide +kernel
theorem dX11_mustHaveRoomForPower_4 : decode cX11_mustHaveRoomForPower 4 = .ok (.invokevirtual 227, 3) := by decide +kernel
theorem dX11_mustHaveRoomForPower_7 : decode cX11_mustHaveRoomForPower 7 = .ok (.bipush 40, 2) := by decide +kernel
theorem dX11_mustHaveRoomForPower_9 : decode cX11_mustHaveRoomForPower 9 = .ok (.if_icmp .lt 14, 3) := by decide +kernel
theorem dX11_mustHaveRoomForPower_12 : decode cX11_mustHaveRoomForPower 12 = .ok (.new 70, 3) := by decide +kernel
theorem dX11_mustHaveRoomForPower_15 : decode cX11_mustHaveRoomForPower 15 = .ok (.dup, 1) := by decide +kernel
theorem dX11_mustHaveRoomForPower_16 : decode cX11_mustHaveRoomForPower 16 = .ok (.ldc_w 388, 3) := by decide +kernel
theorem dX11_mustHaveRoomForPower_19 : decode cX11_mustHaveRoomForPower 19 = .ok (.invokespecial 74, 3) := by decide +kernel
theorem dX11_mustHaveRoomForPower_22 : decode cX11_mustHaveRoomForPower 22 = .ok (.athrow, 1) := by decide +kernel
theorem dX11_mustHaveRoomForPower_23 : decode cX11_mustHaveRoomForPower 23 = .ok (.aload_n 0, 1) := by decide +kernel
theorem dX11_mustHaveRoomForPower_24 : decode cX11_mustHaveRoomForPower 24 = .ok (.invokevirtual 151, 3) := by decide +kernel
theorem dX11_mustHaveRoomForPower_27 : decode cX11_mustHaveRoomForPower 27 = .ok (.return_, 1) := by decide +kernel
theorem dX11_bit_0 : decode cX11_bit 0 = .ok (.iconst 1, 1) := by decide +kernel
theorem dX11_bit_1 : decode cX11_bit 1 = .ok (.iload_n 0, 1) := by decide +kernel
theorem dX11_bit_2 : decode cX11_bit 2 = .ok (.ishl, 1) := by decide +kernel
theorem dX11_bit_3 : decode cX11_bit 3 = .ok (.ireturn, 1) := by decide +kernel
theorem dX11_hasBit_0 : decode cX11_hasBit 0 = .ok (.iload_n 0, 1) := by decide +kernel
theorem dX11_hasBit_1 : decode cX11_hasBit 1 = .ok (.iload_n 1, 1) := by decide +kernel
theorem dX11_hasBit_2 : decode cX11_hasBit 2 = .ok (.invokestatic 279, 3) := by decide +kernel
theorem dX11_hasBit_5 : decode cX11_hasBit 5 = .ok (.iand, 1) := by decide +kernel
theorem dX11_hasBit_6 : decode cX11_hasBit 6 = .ok (.ifCond .eq 7, 3) := by decide +kernel
theorem dX11_hasBit_9 : decode cX11_hasBit 9 = .ok (.iconst 1, 1) := by decide +kernel
theorem dX11_hasBit_10 : decode cX11_hasBit 10 = .ok (.goto 4, 3) := by decide +kernel
theorem dX11_hasBit_13 : decode cX11_hasBit 13 = .ok (.iconst 0, 1) := by decide +kernel
theorem dX11_hasBit_14 : decode cX11_hasBit 14 = .ok (.ireturn, 1) := by decide +kernel
theorem dX11_sealOf_0 : decode cX11_sealOf 0 = .ok (.sipush 131, 3) := by decide +kernel
theorem dX11_sealOf_3 : decode cX11_sealOf 3 = .ok (.iload_n 0, 1) := by decide +kernel
theorem dX11_sealOf_4 : decode cX11_sealOf 4 = .ok (.imul, 1) := by decide +kernel
theorem dX11_sealOf_5 : decode cX11_sealOf 5 = .ok (.bipush 17, 2) := by decide +kernel
theorem dX11_sealOf_7 : decode cX11_sealOf 7 = .ok (.iload_n 1, 1) := by decide +kernel
theorem dX11_sealOf_8 : decode cX11_sealOf 8 = .ok (.imul, 1) := by decide +kernel
theorem dX11_sealOf_9 : decode cX11_sealOf 9 = .ok (.iadd, 1) := by decide +kernel
theorem dX11_sealOf_10 : decode cX11_sealOf 10 = .ok (.bipush 7, 2) := by decide +kernel
theorem dX11_sealOf_12 : decode cX11_sealOf 12 = .ok (.iadd, 1) := by decide +kernel
theorem dX11_sealOf_13 : decode cX11_sealOf 13 = .ok (.ldc_w 390, 3) := by decide +kernel
theorem dX11_sealOf_16 : decode cX11_sealOf 16 = .ok (.irem, 1) := by decide +kernel
theorem dX11_sealOf_17 : decode cX11_sealOf 17 = .ok (.ireturn, 1) := by decide +kernel
theorem dX11_saltOf_0 : decode cX11_saltOf 0 = .ok (.sipush 7919, 3) := by decide +kernel
theorem dX11_saltOf_3 : decode cX11_saltOf 3 = .ok (.iload_n 0, 1) := by decide +kernel
theorem dX11_saltOf_4 : decode cX11_saltOf 4 = .ok (.imul, 1) := by decide +kernel
theorem dX11_saltOf_5 : decode cX11_saltOf 5 = .ok (.sipush 613, 3) := by decide +kernel
theorem dX11_saltOf_8 : decode cX11_saltOf 8 = .ok (.iload_n 1, 1) := by decide +kernel
theorem dX11_saltOf_9 : decode cX11_saltOf 9 = .ok (.imul, 1) := by decide +kernel
theorem dX11_saltOf_10 : decode cX11_saltOf 10 = .ok (.iadd, 1) := by decide +kernel
theorem dX11_saltOf_11 : decode cX11_saltOf 11 = .ok (.bipush 97, 2) := by decide +kernel
theorem dX11_saltOf_13 : decode cX11_saltOf 13 = .ok (.iload_n 2, 1) := by decide +kernel
theorem dX11_saltOf_14 : decode cX11_saltOf 14 = .ok (.imul, 1) := by decide +kernel
theorem dX11_saltOf_15 : decode cX11_saltOf 15 = .ok (.iadd, 1) := by decide +kernel
theorem dX11_saltOf_16 : decode cX11_saltOf 16 = .ok (.ireturn, 1) := by decide +kernel
theorem dX11_markOf_0 : decode cX11_markOf 0 = .ok (.iload_n 0, 1) := by decide +kernel
theorem dX11_markOf_1 : decode cX11_markOf 1 = .ok (.iload_n 1, 1) := by decide +kernel
theorem dX11_markOf_2 : decode cX11_markOf 2 = .ok (.iload_n 2, 1) := by decide +kernel
theorem dX11_markOf_3 : decode cX11_markOf 3 = .ok (.invokestatic 391, 3) := by decide +kernel
theorem dX11_markOf_6 : decode cX11_markOf 6 = .ok (.iload_n 3, 1) := by decide +kernel
theorem dX11_markOf_7 : decode cX11_markOf 7 = .ok (.invokestatic 395, 3) := by decide +kernel
theorem dX11_markOf_10 : decode cX11_markOf 10 = .ok (.ireturn, 1) := by decide +kernel
theorem dX11_sealFrom_0 : decode cX11_sealFrom 0 = .ok (.iconst 1, 1) := by decide +kernel
theorem dX11_sealFrom_1 : decode cX11_sealFrom 1 = .ok (.istore 5, 2) := by decide +kernel
theorem dX11_sealFrom_3 : decode cX11_sealFrom 3 = .ok (.iconst 0, 1) := by decide +kernel
theorem dX11_sealFrom_4 : decode cX11_sealFrom 4 = .ok (.istore 6, 2) := by decide +kernel
theorem dX11_sealFrom_6 : decode cX11_sealFrom 6 = .ok (.iload 6, 2) := by decide +kernel
theorem dX11_sealFrom_8 : decode cX11_sealFrom 8 = .ok (.bipush 6, 2) := by decide +kernel
theorem dX11_sealFrom_10 : decode cX11_sealFrom 10 = .ok (.if_icmp .ge 55, 3) := by decide +kernel
theorem dX11_sealFrom_13 : decode cX11_sealFrom 13 = .ok (.iload 6, 2) := by decide +kernel
theorem dX11_sealFrom_15 : decode cX11_sealFrom 15 = .ok (.aload_n 3, 1) := by decide +kernel
theorem dX11_sealFrom_16 : decode cX11_sealFrom 16 = .ok (.arraylength, 1) := by decide +kernel
theorem dX11_sealFrom_17 : decode cX11_sealFrom 17 = .ok (.if_icmp .ge 48, 3) := by decide +kernel
theorem dX11_sealFrom_20 : decode cX11_sealFrom 20 = .ok (.iload 4, 2) := by decide +kernel
theorem dX11_sealFrom_22 : decode cX11_sealFrom 22 = .ok (.iload 6, 2) := by decide +kernel
theorem dX11_sealFrom_24 : decode cX11_sealFrom 24 = .ok (.invokestatic 282, 3) := by decide +kernel
theorem dX11_sealFrom_27 : decode cX11_sealFrom 27 = .ok (.ifCond .eq 10, 3) := by decide +kernel
theorem dX11_sealFrom_30 : decode cX11_sealFrom 30 = .ok (.aload_n 3, 1) := by decide +kernel
theorem dX11_sealFrom_31 : decode cX11_sealFrom 31 = .ok (.iload 6, 2) := by decide +kernel
theorem dX11_sealFrom_33 : decode cX11_sealFrom 33 = .ok (.iaload, 1) := by decide +kernel
theorem dX11_sealFrom_34 : decode cX11_sealFrom 34 = .ok (.goto 14, 3) := by decide +kernel
theorem dX11_sealFrom_37 : decode cX11_sealFrom 37 = .ok (.iload_n 1, 1) := by decide +kernel
theorem dX11_sealFrom_38 : decode cX11_sealFrom 38 = .ok (.iload_n 2, 1) := by decide +kernel
theorem dX11_sealFrom_39 : decode cX11_sealFrom 39 = .ok (.iload 6, 2) := by decide +kernel
theorem dX11_sealFrom_41 : decode cX11_sealFrom 41 = .ok (.aload_n 3, 1) := by decide +kernel
theorem dX11_sealFrom_42 : decode cX11_sealFrom 42 = .ok (.iload 6, 2) := by decide +kernel
theorem dX11_sealFrom_44 : decode cX11_sealFrom 44 = .ok (.iaload, 1) := by decide +kernel
theorem dX11_sealFrom_45 : decode cX11_sealFrom 45 = .ok (.invokestatic 398, 3) := by decide +kernel
theorem dX11_sealFrom_48 : decode cX11_sealFrom 48 = .ok (.istore 7, 2) := by decide +kernel
theorem dX11_sealFrom_50 : decode cX11_sealFrom 50 = .ok (.iload 5, 2) := by decide +kernel
theorem dX11_sealFrom_52 : decode cX11_sealFrom 52 = .ok (.iload 7, 2) := by decide +kernel
theorem dX11_sealFrom_54 : decode cX11_sealFrom 54 = .ok (.invokestatic 395, 3) := by decide +kernel
theorem dX11_sealFrom_57 : decode cX11_sealFrom 57 = .ok (.istore 5, 2) := by decide +kernel
theorem dX11_sealFrom_59 : decode cX11_sealFrom 59 = .ok (.iinc 6 1, 3) := by decide +kernel
theorem dX11_sealFrom_62 : decode cX11_sealFrom 62 = .ok (.goto (-56), 3) := by decide +kernel
theorem dX11_sealFrom_65 : decode cX11_sealFrom 65 = .ok (.iload_n 0, 1) := by decide +kernel
theorem dX11_sealFrom_66 : decode cX11_sealFrom 66 = .ok (.iload 5, 2) := by decide +kernel
theorem dX11_sealFrom_68 : decode cX11_sealFrom 68 = .ok (.invokestatic 395, 3) := by decide +kernel
theorem dX11_sealFrom_71 : decode cX11_sealFrom 71 = .ok (.ireturn, 1) := by decide +kernel
theorem dX12_init_0 : decode cX12_init 0 = .ok (.aload_n 0, 1) := by decide +kernel
theorem dX12_init_1 : decode cX12_init 1 = .ok (.invokespecial 1, 3) := by decide +kernel
theorem dX12_init_4 : decode cX12_init 4 = .ok (.aload_n 0, 1) := by decide +kernel
theorem dX12_init_5 : decode cX12_init 5 = .ok (.bipush 6, 2) := by decide +kernel
theorem dX12_init_7 : decode cX12_init 7 = .ok (.newarray .int, 2) := by decide +kernel
theorem dX12_init_9 : decode cX12_init 9 = .ok (.putfield 7, 3) := by decide +kernel
theorem dX12_init_12 : decode cX12_init 12 = .ok (.aload_n 0, 1) := by decide +kernel
theorem dX12_init_13 : decode cX12_init 13 = .ok (.sipush 160, 3) := by decide +kernel
theorem dX12_init_16 : decode cX12_init 16 = .ok (.newarray .int, 2) := by decide +kernel
theorem dX12_init_18 : decode cX12_init 18 = .ok (.putfield 13, 3) := by decide +kernel
theorem dX12_init_21 : decode cX12_init 21 = .ok (.aload_n 0, 1) := by decide +kernel
theorem dX12_init_22 : decode cX12_init 22 = .ok (.sipush 160, 3) := by decide +kernel
theorem dX12_init_25 : decode cX12_init 25 = .ok (.newarray .int, 2) := by decide +kernel
theorem dX12_init_27 : decode cX12_init 27 = .ok (.putfield 16, 3) := by decide +kernel
theorem dX12_init_30 : decode cX12_init 30 = .ok (.aload_n 0, 1) := by decide +kernel
theorem dX12_init_31 : decode cX12_init 31 = .ok (.sipush 160, 3) := by decide +kernel
theorem dX12_init_34 : decode cX12_init 34 = .ok (.newarray .int, 2) := by decide +kernel
theorem dX12_init_36 : decode cX12_init 36 = .ok (.putfield 19, 3) := by decide +kernel
theorem dX12_init_39 : decode cX12_init 39 = .ok (.aload_n 0, 1) := by decide +kernel
theorem dX12_init_40 : decode cX12_init 40 = .ok (.sipush 160, 3) := by decide +kernel
theorem dX12_init_43 : decode cX12_init 43 = .ok (.newarray .int, 2) := by decide +kernel
theorem dX12_init_45 : decode cX12_init 45 = .ok (.putfield 22, 3) := by decide +kernel
theorem dX12_init_48 : decode cX12_init 48 = .ok (.aload_n 0, 1) := by decide +kernel
theorem dX12_init_49 : decode cX12_init 49 = .ok (.sipush 160, 3) := by decide +kernel
theorem dX12_init_52 : decode cX12_init 52 = .ok (.newarray .int, 2) := by decide +kernel
theorem dX12_init_54 : decode cX12_init 54 = .ok (.putfield 25, 3) := by decide +kernel
theorem dX12_init_57 : decode cX12_init 57 = .ok (.aload_n 0, 1) := by decide +kernel
theorem dX12_init_58 : decode cX12_init 58 = .ok (.sipush 160, 3) := by decide +kernel
theorem dX12_init_61 : decode cX12_init 61 = .ok (.newarray .int, 2) := by decide +kernel
theorem dX12_init_63 : decode cX12_init 63 = .ok (.putfield 28, 3) := by decide +kernel
theorem dX12_init_66 : decode cX12_init 66 = .ok (.aload_n 0, 1) := by decide +kernel
theorem dX12_init_67 : decode cX12_init 67 = .ok (.sipush 960, 3) := by decide +kernel
theorem dX12_init_70 : decode cX12_init 70 = .ok (.newarray .int, 2) := by decide +kernel
theorem dX12_init_72 : decode cX12_init 72 = .ok (.putfield 31, 3) := by decide +kernel
theorem dX12_init_75 : decode cX12_init 75 = .ok (.aload_n 0, 1) := by decide +kernel
theorem dX12_init_76 : decode cX12_init 76 = .ok (.sipush 960, 3) := by decide +kernel
theorem dX12_init_79 : decode cX12_init 79 = .ok (.newarray .boolean, 2) := by decide +kernel
theorem dX12_init_81 : decode cX12_init 81 = .ok (.putfield 34, 3) := by decide +kernel
theorem dX12_init_84 : decode cX12_init 84 = .ok (.aload_n 0, 1) := by decide +kernel
theorem dX12_init_85 : decode cX12_init 85 = .ok (.bipush 40, 2) := by decide +kernel
theorem dX12_init_87 : decode cX12_init 87 = .ok (.newarray .int, 2) := by decide +kernel
theorem dX12_init_89 : decode cX12_init 89 = .ok (.putfield 38, 3) := by decide +kernel
theorem dX12_init_92 : decode cX12_init 92 = .ok (.aload_n 0, 1) := by decide +kernel
theorem dX12_init_93 : decode cX12_init 93 = .ok (.bipush 40, 2) := by decide +kernel
theorem dX12_init_95 : decode cX12_init 95 = .ok (.newarray .int, 2) := by decide +kernel
theorem dX12_init_97 : decode cX12_init 97 = .ok (.putfield 41, 3) := by decide +kernel
theorem dX12_init_100 : decode cX12_init 100 = .ok (.aload_n 0, 1) := by decide +kernel
theorem dX12_init_101 : decode cX12_init 101 = .ok (.bipush 40, 2) := by decide +kernel
theorem dX12_init_103 : decode cX12_init 103 = .ok (.newarray .int, 2) := by decide +kernel
theorem dX12_init_105 : decode cX12_init 105 = .ok (.putfield 44, 3) := by decide +kernel
theorem dX12_init_108 : decode cX12_init 108 = .ok (.aload_n 0, 1) := by decide +kernel
theorem dX12_init_109 : decode cX12_init 109 = .ok (.bipush 40, 2) := by decide +kernel
theorem dX12_init_111 : decode cX12_init 111 = .ok (.newarray .int, 2) := by decide +kernel
theorem dX12_init_113 : decode cX12_init 113 = .ok (.putfield 47, 3) := by decide +kernel
theorem dX12_init_116 : decode cX12_init 116 = .ok (.aload_n 0, 1) := by decide +kernel
theorem dX12_init_117 : decode cX12_init 117 = .ok (.bipush 40, 2) := by decide +kernel
theorem dX12_init_119 : decode cX12_init 119 = .ok (.newarray .int, 2) := by decide +kernel
theorem dX12_init_121 : decode cX12_init 121 = .ok (.putfield 50, 3) := by decide +kernel
theorem dX12_init_124 : decode cX12_init 124 = .ok (.aload_n 0, 1) := by decide +kernel
theorem dX12_init_125 : decode cX12_init 125 = .ok (.bipush 40, 2) := by decide +kernel
theorem dX12_init_127 : decode cX12_init 127 = .ok (.newarray .int, 2) := by decide +kernel
theorem dX12_init_129 : decode cX12_init 129 = .ok (.putfield 53, 3) := by decide +kernel
theorem dX12_init_132 : decode cX12_init 132 = .ok (.aload_n 0, 1) := by decide +kernel
theorem dX12_init_133 : decode cX12_init 133 = .ok (.bipush 40, 2) := by decide +kernel
theorem dX12_init_135 : decode cX12_init 135 = .ok (.newarray .int, 2) := by decide +kernel
theorem dX12_init_137 : decode cX12_init 137 = .ok (.putfield 56, 3) := by decide +kernel
theorem dX12_init_140 : decode cX12_init 140 = .ok (.aload_n 0, 1) := by decide +kernel
theorem dX12_init_141 : decode cX12_init 141 = .ok (.bipush 40, 2) := by decide +kernel
theorem dX12_init_143 : decode cX12_init 143 = .ok (.newarray .int, 2) := by decide +kernel
theorem dX12_init_145 : decode cX12_init 145 = .ok (.putfield 59, 3) := by decide +kernel
theorem dX12_init_148 : decode cX12_init 148 = .ok (.aload_n 0, 1) := by decide +kernel
theorem dX12_init_149 : decode cX12_init 149 = .ok (.bipush 40, 2) := by decide +kernel
theorem dX12_init_151 : decode cX12_init 151 = .ok (.newarray .int, 2) := by decide +kernel
theorem dX12_init_153 : decode cX12_init 153 = .ok (.putfield 62, 3) := by decide +kernel
theorem dX12_init_156 : decode cX12_init 156 = .ok (.aload_n 0, 1) := by decide +kernel
theorem dX12_init_157 : decode cX12_init 157 = .ok (.bipush 63, 2) := by decide +kernel
theorem dX12_init_159 : decode cX12_init 159 = .ok (.putfield 65, 3) := by decide +kernel
theorem dX12_init_162 : decode cX12_init 162 = .ok (.aload_n 0, 1) := by decide +kernel
theorem dX12_init_163 : decode cX12_init 163 = .ok (.sipush 10000, 3) := by decide +kernel
theorem dX12_init_166 : decode cX12_init 166 = .ok (.putfield 69, 3) := by decide +kernel
theorem dX12_init_169 : decode cX12_init 169 = .ok (.aload_n 0, 1) := by decide +kernel
theorem dX12_init_170 : decode cX12_init 170 = .ok (.ldc 72, 2) := by decide +kernel
theorem dX12_init_172 : decode cX12_init 172 = .ok (.putfield 73, 3) := by decide +kernel
theorem dX12_init_175 : decode cX12_init 175 = .ok (.aload_n 0, 1) := by decide +kernel
theorem dX12_init_176 : decode cX12_init 176 = .ok (.bipush 100, 2) := by decide +kernel
theorem dX12_init_178 : decode cX12_init 178 = .ok (.putfield 76, 3) := by decide +kernel
theorem dX12_init_181 : decode cX12_init 181 = .ok (.aload_n 0, 1) := by decide +kernel
theorem dX12_init_182 : decode cX12_init 182 = .ok (.bipush 6, 2) := by decide +kernel
theorem dX12_init_184 : decode cX12_init 184 = .ok (.newarray .int, 2) := by decide +kernel
theorem dX12_init_186 : decode cX12_init 186 = .ok (.putfield 79, 3) := by decide +kernel
theorem dX12_init_189 : decode cX12_init 189 = .ok (.aload_n 0, 1) := by decide +kernel
theorem dX12_init_190 : decode cX12_init 190 = .ok (.sipush 960, 3) := by decide +kernel
theorem dX12_init_193 : decode cX12_init 193 = .ok (.newarray .int, 2) := by decide +kernel
theorem dX12_init_195 : decode cX12_init 195 = .ok (.putfield 82, 3) := by decide +kernel
theorem dX12_init_198 : decode cX12_init 198 = .ok (.aload_n 0, 1) := by decide +kernel
theorem dX12_init_199 : decode cX12_init 199 = .ok (.sipush 160, 3) := by decide +kernel
theorem dX12_init_202 : decode cX12_init 202 = .ok (.newarray .int, 2) := by decide +kernel
theorem dX12_init_204 : decode cX12_init 204 = .ok (.putfield 85, 3) := by decide +kernel
theorem dX12_init_207 : decode cX12_init 207 = .ok (.aload_n 0, 1) := by decide +kernel
theorem dX12_init_208 : decode cX12_init 208 = .ok (.sipush 960, 3) := by decide +kernel
theorem dX12_init_211 : decode cX12_init 211 = .ok (.newarray .int, 2) := by decide +kernel
theorem dX12_init_213 : decode cX12_init 213 = .ok (.putfield 88, 3) := by decide +kernel
theorem dX12_init_216 : decode cX12_init 216 = .ok (.aload_n 0, 1) := by decide +kernel
theorem dX12_init_217 : decode cX12_init 217 = .ok (.sipush 160, 3) := by decide +kernel
theorem dX12_init_220 : decode cX12_init 220 = .ok (.newarray .int, 2) := by decide +kernel
theorem dX12_init_222 : decode cX12_init 222 = .ok (.putfield 91, 3) := by decide +kernel
theorem dX12_init_225 : decode cX12_init 225 = .ok (.aload_n 0, 1) := by decide +kernel
theorem dX12_init_226 : decode cX12_init 226 = .ok (.sipush 160, 3) := by decide +kernel
theorem dX12_init_229 : decode cX12_init 229 = .ok (.newarray .int, 2) := by decide +kernel
theorem dX12_init_231 : decode cX12_init 231 = .ok (.putfield 94, 3) := by decide +kernel
theorem dX12_init_234 : decode cX12_init 234 = .ok (.aload_n 0, 1) := by decide +kernel
theorem dX12_init_235 : decode cX12_init 235 = .ok (.sipush 160, 3) := by decide +kernel
theorem dX12_init_238 : decode cX12_init 238 = .ok (.newarray .boolean, 2) := by decide +kernel
theorem dX12_init_240 : decode cX12_init 240 = .ok (.putfield 97, 3) := by decide +kernel
theorem dX12_init_243 : decode cX12_init 243 = .ok (.aload_n 0, 1) := by decide +kernel
theorem dX12_init_244 : decode cX12_init 244 = .ok (.bipush 12, 2) := by decide +kernel
theorem dX12_init_246 : decode cX12_init 246 = .ok (.newarray .int, 2) := by decide +kernel
theorem dX12_init_248 : decode cX12_init 248 = .ok (.putfield 100, 3) := by decide +kernel
theorem dX12_init_251 : decode cX12_init 251 = .ok (.aload_n 0, 1) := by decide +kernel
theorem dX12_init_252 : decode cX12_init 252 = .ok (.bipush 12, 2) := by decide +kernel
theorem dX12_init_254 : decode cX12_init 254 = .ok (.newarray .int, 2) := by decide +kernel
theorem dX12_init_256 : decode cX12_init 256 = .ok (.putfield 103, 3) := by decide +kernel
theorem dX12_init_259 : decode cX12_init 259 = .ok (.aload_n 0, 1) := by decide +kernel
theorem dX12_init_260 : decode cX12_init 260 = .ok (.bipush 12, 2) := by decide +kernel
theorem dX12_init_262 : decode cX12_init 262 = .ok (.newarray .int, 2) := by decide +kernel
theorem dX12_init_264 : decode cX12_init 264 = .ok (.putfield 106, 3) := by decide +kernel
theorem dX12_init_267 : decode cX12_init 267 = .ok (.aload_n 0, 1) := by decide +kernel
theorem dX12_init_268 : decode cX12_init 268 = .ok (.bipush 12, 2) := by decide +kernel
theorem dX12_init_270 : decode cX12_init 270 = .ok (.newarray .int, 2) := by decide +kernel
theorem dX12_init_272 : decode cX12_init 272 = .ok (.putfield 109, 3) := by decide +kernel
theorem dX12_init_275 : decode cX12_init 275 = .ok (.aload_n 0, 1) := by decide +kernel
theorem dX12_init_276 : decode cX12_init 276 = .ok (.bipush 12, 2) := by decide +kernel
theorem dX12_init_278 : decode cX12_init 278 = .ok (.newarray .int, 2) := by decide +kernel
theorem dX12_init_280 : decode cX12_init 280 = .ok (.putfield 112, 3) := by decide +kernel
theorem dX12_init_283 : decode cX12_init 283 = .ok (.aload_n 0, 1) := by decide +kernel
theorem dX12_init_284 : decode cX12_init 284 = .ok (.sipush 11520, 3) := by decide +kernel
theorem dX12_init_287 : decode cX12_init 287 = .ok (.newarray .int, 2) := by decide +kernel
theorem dX12_init_289 : decode cX12_init 289 = .ok (.putfield 115, 3) := by decide +kernel
theorem dX12_init_292 : decode cX12_init 292 = .ok (.aload_n 0, 1) := by decide +kernel
theorem dX12_init_293 : decode cX12_init 293 = .ok (.sipush 1920, 3) := by decide +kernel
theorem dX12_init_296 : decode cX12_init 296 = .ok (.newarray .int, 2) := by decide +kernel
theorem dX12_init_298 : decode cX12_init 298 = .ok (.putfield 118, 3) := by decide +kernel
theorem dX12_init_301 : decode cX12_init 301 = .ok (.iconst 0, 1) := by decide +kernel
theorem dX12_init_302 : decode cX12_init 302 = .ok (.istore_n 1, 1) := by decide +kernel
theorem dX12_init_303 : decode cX12_init 303 = .ok (.iload_n 1, 1) := by decide +kernel
theorem dX12_init_304 : decode cX12_init 304 = .ok (.sipush 960, 3) := by decide +kernel
theorem dX12_init_307 : decode cX12_init 307 = .ok (.if_icmp .ge 16, 3) := by decide +kernel
theorem dX12_init_310 : decode cX12_init 310 = .ok (.aload_n 0, 1) := by decide +kernel
theorem dX12_init_311 : decode cX12_init 311 = .ok (.getfield 31, 3) := by decide +kernel
theorem dX12_init_314 : decode cX12_init 314 = .ok (.iload_n 1, 1) := by decide +kernel
theorem dX12_init_315 : decode cX12_init 315 = .ok (.iconst (-1), 1) := by decide +kernel
theorem dX12_init_316 : decode cX12_init 316 = .ok (.iastore, 1) := by decide +kernel
theorem dX12_init_317 : decode cX12_init 317 = .ok (.iinc 1 1, 3) := by decide +kernel
theorem dX12_init_320 : decode cX12_init 320 = .ok (.goto (-17), 3) := by decide +kernel
theorem dX12_init_323 : decode cX12_init 323 = .ok (.return_, 1) := by decide +kernel
theorem dX12_thrown_0 : decode cX12_thrown 0 = .ok (.aload_n 0, 1) := by decide +kernel
theorem dX12_thrown_1 : decode cX12_thrown 1 = .ok (.getfield 121, 3) := by decide +kernel
theorem dX12_thrown_4 : decode cX12_thrown 4 = .ok (.ireturn, 1) := by decide +kernel
theorem dX12_holds_0 : decode cX12_holds 0 = .ok (.aload_n 0, 1) := by decide +kernel
theorem dX12_holds_1 : decode cX12_holds 1 = .ok (.iload_n 1, 1) := by decide +kernel
theorem dX12_holds_2 : decode cX12_holds 2 = .ok (.putfield 121, 3) := by decide +kernel
theorem dX12_holds_5 : decode cX12_holds 5 = .ok (.iload_n 1, 1) := by decide +kernel
theorem dX12_holds_6 : decode cX12_holds 6 = .ok (.ifCond .ne 7, 3) := by decide +kernel
theorem dX12_holds_9 : decode cX12_holds 9 = .ok (.iconst 1, 1) := by decide +kernel
theorem dX12_holds_10 : decode cX12_holds 10 = .ok (.goto 4, 3) := by decide +kernel
theorem dX12_holds_13 : decode cX12_holds 13 = .ok (.iconst 0, 1) := by decide +kernel
theorem dX12_holds_14 : decode cX12_holds 14 = .ok (.ireturn, 1) := by decide +kernel
theorem dX12_in_0 : decode cX12_in 0 = .ok (.iload_n 0, 1) := by decide +kernel
theorem dX12_in_1 : decode cX12_in 1 = .ok (.iload_n 1, 1) := by decide +kernel
theorem dX12_in_2 : decode cX12_in 2 = .ok (.if_icmp .lt 12, 3) := by decide +kernel
theorem dX12_in_5 : decode cX12_in 5 = .ok (.iload_n 0, 1) := by decide +kernel
theorem dX12_in_6 : decode cX12_in 6 = .ok (.iload_n 2, 1) := by decide +kernel
theorem dX12_in_7 : decode cX12_in 7 = .ok (.if_icmp .gt 7, 3) := by decide +kernel
theorem dX12_in_10 : decode cX12_in 10 = .ok (.iconst 1, 1) := by decide +kernel
theorem dX12_in_11 : decode cX12_in 11 = .ok (.goto 4, 3) := by decide +kernel
theorem dX12_in_14 : decode cX12_in 14 = .ok (.iconst 0, 1) := by decide +kernel
theorem dX12_in_15 : decode cX12_in 15 = .ok (.ireturn, 1) := by decide +kernel
theorem dX12_isKiosk_0 : decode cX12_isKiosk 0 = .ok (.iload_n 0, 1) := by decide +kernel
theorem dX12_isKiosk_1 : decode cX12_isKiosk 1 = .ok (.iconst 0, 1) := by decide +kernel
theorem dX12_isKiosk_2 : decode cX12_isKiosk 2 = .ok (.iconst 5, 1) := by decide +kernel
theorem dX12_isKiosk_3 : decode cX12_isKiosk 3 = .ok (.invokestatic 124, 3) := by decide +kernel
theorem dX12_isKiosk_6 : decode cX12_isKiosk 6 = .ok (.ireturn, 1) := by decide +kernel
theorem dX12_isPerson_0 : decode cX12_isPerson 0 = .ok (.iload_n 0, 1) := by decide +kernel
theorem dX12_isPerson_1 : decode cX12_isPerson 1 = .ok (.iconst 0, 1) := by decide +kernel
theorem dX12_isPerson_2 : decode cX12_isPerson 2 = .ok (.bipush 9, 2) := by decide +kernel
theorem dX12_isPerson_4 : decode cX12_isPerson 4 = .ok (.invokestatic 124, 3) := by decide +kernel
theorem dX12_isPerson_7 : decode cX12_isPerson 7 = .ok (.ireturn, 1) := by decide +kernel
theorem dX12_isPower_0 : decode cX12_isPower 0 = .ok (.iload_n 1, 1) := by decide +kernel
theorem dX12_isPower_1 : decode cX12_isPower 1 = .ok (.iconst 0, 1) := by decide +kernel
theorem dX12_isPower_2 : decode cX12_isPower 2 = .ok (.aload_n 0, 1) := by decide +kernel
theorem dX12_isPower_3 : decode cX12_isPower 3 = .ok (.getfield 128, 3) := by decide +kernel
theorem dX12_isPower_6 : decode cX12_isPower 6 = .ok (.iconst 1, 1) := by decide +kernel
theorem dX12_isPower_7 : decode cX12_isPower 7 = .ok (.isub, 1) := by decide +kernel
theorem dX12_isPower_8 : decode cX12_isPower 8 = .ok (.invokestatic 124, 3) := by decide +kernel
theorem dX12_isPower_11 : decode cX12_isPower 11 = .ok (.ireturn, 1) := by decide +kernel
theorem dX12_isRecord_0 : decode cX12_isRecord 0 = .ok (.iload_n 1, 1) := by decide +kernel
theorem dX12_isRecord_1 : decode cX12_isRecord 1 = .ok (.invokestatic 131, 3) := by decide +kernel
theorem dX12_isRecord_4 : decode cX12_isRecord 4 = .ok (.ifCond .eq 23, 3) := by decide +kernel
theorem dX12_isRecord_7 : decode cX12_isRecord 7 = .ok (.iload_n 2, 1) := by decide +kernel
theorem dX12_isRecord_8 : decode cX12_isRecord 8 = .ok (.iconst 0, 1) := by decide +kernel
theorem dX12_isRecord_9 : decode cX12_isRecord 9 = .ok (.aload_n 0, 1) := by decide +kernel
theorem dX12_isRecord_10 : decode cX12_isRecord 10 = .ok (.getfield 79, 3) := by decide +kernel
theorem dX12_isRecord_13 : decode cX12_isRecord 13 = .ok (.iload_n 1, 1) := by decide +kernel
theorem dX12_isRecord_14 : decode cX12_isRecord 14 = .ok (.iaload, 1) := by decide +kernel
theorem dX12_isRecord_15 : decode cX12_isRecord 15 = .ok (.iconst 1, 1) := by decide +kernel
theorem dX12_isRecord_16 : decode cX12_isRecord 16 = .ok (.isub, 1) := by decide +kernel
theorem dX12_isRecord_17 : decode cX12_isRecord 17 = .ok (.invokestatic 124, 3) := by decide +kernel
theorem dX12_isRecord_20 : decode cX12_isRecord 20 = .ok (.ifCond .eq 7, 3) := by decide +kernel
theorem dX12_isRecord_23 : decode cX12_isRecord 23 = .ok (.iconst 1, 1) := by decide +kernel
theorem dX12_isRecord_24 : decode cX12_isRecord 24 = .ok (.goto 4, 3) := by decide +kernel
theorem dX12_isRecord_27 : decode cX12_isRecord 27 = .ok (.iconst 0, 1) := by decide +kernel
theorem dX12_isRecord_28 : decode cX12_isRecord 28 = .ok (.ireturn, 1) := by decide +kernel
theorem dX12_many_0 : decode cX12_many 0 = .ok (.iconst 0, 1) := by decide +kernel
theorem dX12_many_1 : decode cX12_many 1 = .ok (.istore_n 1, 1) := by decide +kernel
theorem dX12_many_2 : decode cX12_many 2 = .ok (.iconst 0, 1) := by decide +kernel
theorem dX12_many_3 : decode cX12_many 3 = .ok (.istore_n 2, 1) := by decide +kernel
theorem dX12_many_4 : decode cX12_many 4 = .ok (.iload_n 2, 1) := by decide +kernel
theorem dX12_many_5 : decode cX12_many 5 = .ok (.bipush 6, 2) := by decide +kernel
theorem dX12_many_7 : decode cX12_many 7 = .ok (.if_icmp .ge 17, 3) := by decide +kernel
theorem dX12_many_10 : decode cX12_many 10 = .ok (.iload_n 1, 1) := by decide +kernel
theorem dX12_many_11 : decode cX12_many 11 = .ok (.iload_n 0, 1) := by decide +kernel
theorem dX12_many_12 : decode cX12_many 12 = .ok (.iload_n 2, 1) := by decide +kernel
theorem dX12_many_13 : decode cX12_many 13 = .ok (.ishr, 1) := by decide +kernel
theorem dX12_many_14 : decode cX12_many 14 = .ok (.iconst 1, 1) := by decide +kernel
theorem dX12_many_15 : decode cX12_many 15 = .ok (.iand, 1) := by decide +kernel
theorem dX12_many_16 : decode cX12_many 16 = .ok (.iadd, 1) := by decide +kernel
theorem dX12_many_17 : decode cX12_many 17 = .ok (.istore_n 1, 1) := by decide +kernel
theorem dX12_many_18 : decode cX12_many 18 = .ok (.iinc 2 1, 3) := by decide +kernel
theorem dX12_many_21 : decode cX12_many 21 = .ok (.goto (-17), 3) := by decide +kernel
theorem dX12_many_24 : decode cX12_many 24 = .ok (.iload_n 1, 1) := by decide +kernel
theorem dX12_many_25 : decode cX12_many 25 = .ok (.ireturn, 1) := by decide +kernel
theorem dX12_errorOfLink_0 : decode cX12_errorOfLink 0 = .ok (.iload_n 1, 1) := by decide +kernel
theorem dX12_errorOfLink_1 : decode cX12_errorOfLink 1 = .ok (.invokestatic 131, 3) := by decide +kernel
theorem dX12_errorOfLink_4 : decode cX12_errorOfLink 4 = .ok (.ifCond .eq 10, 3) := by decide +kernel
theorem dX12_errorOfLink_7 : decode cX12_errorOfLink 7 = .ok (.iload_n 2, 1) := by decide +kernel
theorem dX12_errorOfLink_8 : decode cX12_errorOfLink 8 = .ok (.invokestatic 131, 3) := by decide +kernel
theorem dX12_errorOfLink_11 : decode cX12_errorOfLink 11 = .ok (.ifCond .ne 5, 3) := by decide +kernel
theorem dX12_errorOfLink_14 : decode cX12_errorOfLink 14 = .ok (.iconst 1, 1) := by decide +kernel
theorem dX12_errorOfLink_15 : decode cX12_errorOfLink 15 = .ok (.ireturn, 1) := by decide +kernel
theorem dX12_errorOfLink_16 : decode cX12_errorOfLink 16 = .ok (.iload_n 1, 1) := by decide +kernel
theorem dX12_errorOfLink_17 : decode cX12_errorOfLink 17 = .ok (.iload_n 2, 1) := by decide +kernel
theorem dX12_errorOfLink_18 : decode cX12_errorOfLink 18 = .ok (.if_icmp .ne 7, 3) := by decide +kernel
theorem dX12_errorOfLink_21 : decode cX12_errorOfLink 21 = .ok (.iconst 2, 1) := by decide +kernel
theorem dX12_errorOfLink_22 : decode cX12_errorOfLink 22 = .ok (.goto 22, 3) := by decide +kernel
theorem dX12_errorOfLink_25 : decode cX12_errorOfLink 25 = .ok (.aload_n 0, 1) := by decide +kernel
theorem dX12_errorOfLink_26 : decode cX12_errorOfLink 26 = .ok (.getfield 7, 3) := by decide +kernel
theorem dX12_errorOfLink_29 : decode cX12_errorOfLink 29 = .ok (.iload_n 1, 1) := by decide +kernel
theorem dX12_errorOfLink_30 : decode cX12_errorOfLink 30 = .ok (.iaload, 1) := by decide +kernel
theorem dX12_errorOfLink_31 : decode cX12_errorOfLink 31 = .ok (.iload_n 2, 1) := by decide +kernel
theorem dX12_errorOfLink_32 : decode cX12_errorOfLink 32 = .ok (.ishr, 1) := by decide +kernel
theorem dX12_errorOfLink_33 : decode cX12_errorOfLink 33 = .ok (.iconst 1, 1) := by decide +kernel
theorem dX12_errorOfLink_34 : decode cX12_errorOfLink 34 = .ok (.iand, 1) := by decide +kernel
theorem dX12_errorOfLink_35 : decode cX12_errorOfLink 35 = .ok (.iload_n 3, 1) := by decide +kernel
theorem dX12_errorOfLink_36 : decode cX12_errorOfLink 36 = .ok (.if_icmp .ne 7, 3) := by decide +kernel
theorem dX12_errorOfLink_39 : decode cX12_errorOfLink 39 = .ok (.iconst 3, 1) := by decide +kernel
theorem dX12_errorOfLink_40 : decode cX12_errorOfLink 40 = .ok (.goto 4, 3) := by decide +kernel
theorem dX12_errorOfLink_43 : decode cX12_errorOfLink 43 = .ok (.iconst 0, 1) := by decide +kernel
theorem dX12_errorOfLink_44 : decode cX12_errorOfLink 44 = .ok (.ireturn, 1) := by decide +kernel
theorem dX12_turns_0 : decode cX12_turns 0 = .ok (.aload_n 0, 1) := by decide +kernel
theorem dX12_turns_1 : decode cX12_turns 1 = .ok (.getfield 7, 3) := by decide +kernel
theorem dX12_turns_4 : decode cX12_turns 4 = .ok (.iload_n 1, 1) := by decide +kernel
theorem dX12_turns_5 : decode cX12_turns 5 = .ok (.dup2, 1) := by decide +kernel
theorem dX12_turns_6 : decode cX12_turns 6 = .ok (.iaload, 1) := by decide +kernel
theorem dX12_turns_7 : decode cX12_turns 7 = .ok (.iconst 1, 1) := by decide +kernel
theorem dX12_turns_8 : decode cX12_turns 8 = .ok (.iload_n 2, 1) := by decide +kernel
theorem dX12_turns_9 : decode cX12_turns 9 = .ok (.ishl, 1) := by decide +kernel
theorem dX12_turns_10 : decode cX12_turns 10 = .ok (.ixor, 1) := by decide +kernel
theorem dX12_turns_11 : decode cX12_turns 11 = .ok (.iastore, 1) := by decide +kernel
theorem dX12_turns_12 : decode cX12_turns 12 = .ok (.aload_n 0, 1) := by decide +kernel
theorem dX12_turns_13 : decode cX12_turns 13 = .ok (.getfield 7, 3) := by decide +kernel
theorem dX12_turns_16 : decode cX12_turns 16 = .ok (.iload_n 2, 1) := by decide +kernel
theorem dX12_turns_17 : decode cX12_turns 17 = .ok (.dup2, 1) := by decide +kernel
theorem dX12_turns_18 : decode cX12_turns 18 = .ok (.iaload, 1) := by decide +kernel
theorem dX12_turns_19 : decode cX12_turns 19 = .ok (.iconst 1, 1) := by decide +kernel
theorem dX12_turns_20 : decode cX12_turns 20 = .ok (.iload_n 1, 1) := by decide +kernel
theorem dX12_turns_21 : decode cX12_turns 21 = .ok (.ishl, 1) := by decide +kernel
theorem dX12_turns_22 : decode cX12_turns 22 = .ok (.ixor, 1) := by decide +kernel
theorem dX12_turns_23 : decode cX12_turns 23 = .ok (.iastore, 1) := by decide +kernel
theorem dX12_turns_24 : decode cX12_turns 24 = .ok (.aload_n 0, 1) := by decide +kernel
theorem dX12_turns_25 : decode cX12_turns 25 = .ok (.getfield 7, 3) := by decide +kernel
theorem dX12_turns_28 : decode cX12_turns 28 = .ok (.iload_n 1, 1) := by decide +kernel
theorem dX12_turns_29 : decode cX12_turns 29 = .ok (.iaload, 1) := by decide +kernel
theorem dX12_turns_30 : decode cX12_turns 30 = .ok (.invokestatic 135, 3) := by decide +kernel
theorem dX12_turns_33 : decode cX12_turns 33 = .ok (.ireturn, 1) := by decide +kernel
theorem dX12_join_0 : decode cX12_join 0 = .ok (.aload_n 0, 1) := by decide +kernel
theorem dX12_join_1 : decode cX12_join 1 = .ok (.aload_n 0, 1) := by decide +kernel
theorem dX12_join_2 : decode cX12_join 2 = .ok (.iload_n 1, 1) := by decide +kernel
theorem dX12_join_3 : decode cX12_join 3 = .ok (.iload_n 2, 1) := by decide +kernel
theorem dX12_join_4 : decode cX12_join 4 = .ok (.iconst 1, 1) := by decide +kernel
theorem dX12_join_5 : decode cX12_join 5 = .ok (.invokevirtual 139, 3) := by decide +kernel
theorem dX12_join_8 : decode cX12_join 8 = .ok (.invokevirtual 143, 3) := by decide +kernel
theorem dX12_join_11 : decode cX12_join 11 = .ok (.ifCond .eq 12, 3) := by decide +kernel
theorem dX12_join_14 : decode cX12_join 14 = .ok (.aload_n 0, 1) := by decide +kernel
theorem dX12_join_15 : decode cX12_join 15 = .ok (.iload_n 1, 1) := by decide +kernel
theorem dX12_join_16 : decode cX12_join 16 = .ok (.iload_n 2, 1) := by decide +kernel
theorem dX12_join_17 : decode cX12_join 17 = .ok (.invokevirtual 146, 3) := by decide +kernel
theorem dX12_join_20 : decode cX12_join 20 = .ok (.goto 4, 3) := by decide +kernel
theorem dX12_join_23 : decode cX12_join 23 = .ok (.iconst 0, 1) := by decide +kernel
theorem dX12_join_24 : decode cX12_join 24 = .ok (.ireturn, 1) := by decide +kernel
theorem dX12_cut_0 : decode cX12_cut 0 = .ok (.aload_n 0, 1) := by decide +kernel
theorem dX12_cut_1 : decode cX12_cut 1 = .ok (.aload_n 0, 1) := by decide +kernel
theorem dX12_cut_2 : decode cX12_cut 2 = .ok (.iload_n 1, 1) := by decide +kernel
theorem dX12_cut_3 : decode cX12_cut 3 = .ok (.iload_n 2, 1) := by decide +kernel
theorem dX12_cut_4 : decode cX12_cut 4 = .ok (.iconst 0, 1) := by decide +kernel
theorem dX12_cut_5 : decode cX12_cut 5 = .ok (.invokevirtual 139, 3) := by decide +kernel
theorem dX12_cut_8 : decode cX12_cut 8 = .ok (.invokevirtual 143, 3) := by decide +kernel
theorem dX12_cut_11 : decode cX12_cut 11 = .ok (.ifCond .eq 12, 3) := by decide +kernel
theorem dX12_cut_14 : decode cX12_cut 14 = .ok (.aload_n 0, 1) := by decide +kernel
theorem dX12_cut_15 : decode cX12_cut 15 = .ok (.iload_n 1, 1) := by decide +kernel
theorem dX12_cut_16 : decode cX12_cut 16 = .ok (.iload_n 2, 1) := by decide +kernel
theorem dX12_cut_17 : decode cX12_cut 17 = .ok (.invokevirtual 146, 3) := by decide +kernel
theorem dX12_cut_20 : decode cX12_cut 20 = .ok (.goto 4, 3) := by decide +kernel
theorem dX12_cut_23 : decode cX12_cut 23 = .ok (.iconst 0, 1) := by decide +kernel
theorem dX12_cut_24 : decode cX12_cut 24 = .ok (.ireturn, 1) := by decide +kernel
theorem dX12_goesOn_0 : decode cX12_goesOn 0 = .ok (.iconst 0, 1) := by decide +kernel
theorem dX12_goesOn_1 : decode cX12_goesOn 1 = .ok (.istore_n 2, 1) := by decide +kernel
theorem dX12_goesOn_2 : decode cX12_goesOn 2 = .ok (.iconst 0, 1) := by decide +kernel
theorem dX12_goesOn_3 : decode cX12_goesOn 3 = .ok (.istore_n 3, 1) := by decide +kernel
theorem dX12_goesOn_4 : decode cX12_goesOn 4 = .ok (.iload_n 3, 1) := by decide +kernel
theorem dX12_goesOn_5 : decode cX12_goesOn 5 = .ok (.bipush 36, 2) := by decide +kernel
theorem dX12_goesOn_7 : decode cX12_goesOn 7 = .ok (.if_icmp .ge 110, 3) := by decide +kernel
theorem dX12_goesOn_10 : decode cX12_goesOn 10 = .ok (.sipush 160, 3) := by decide +kernel
theorem dX12_goesOn_13 : decode cX12_goesOn 13 = .ok (.iload_n 3, 1) := by decide +kernel
theorem dX12_goesOn_14 : decode cX12_goesOn 14 = .ok (.bipush 6, 2) := by decide +kernel
theorem dX12_goesOn_16 : decode cX12_goesOn 16 = .ok (.idiv, 1) := by decide +kernel
theorem dX12_goesOn_17 : decode cX12_goesOn 17 = .ok (.imul, 1) := by decide +kernel
theorem dX12_goesOn_18 : decode cX12_goesOn 18 = .ok (.iload_n 1, 1) := by decide +kernel
theorem dX12_goesOn_19 : decode cX12_goesOn 19 = .ok (.iadd, 1) := by decide +kernel
theorem dX12_goesOn_20 : decode cX12_goesOn 20 = .ok (.istore 4, 2) := by decide +kernel
theorem dX12_goesOn_22 : decode cX12_goesOn 22 = .ok (.sipush 160, 3) := by decide +kernel
theorem dX12_goesOn_25 : decode cX12_goesOn 25 = .ok (.iload_n 3, 1) := by decide +kernel
theorem dX12_goesOn_26 : decode cX12_goesOn 26 = .ok (.bipush 6, 2) := by decide +kernel
theorem dX12_goesOn_28 : decode cX12_goesOn 28 = .ok (.irem, 1) := by decide +kernel
theorem dX12_goesOn_29 : decode cX12_goesOn 29 = .ok (.imul, 1) := by decide +kernel
theorem dX12_goesOn_30 : decode cX12_goesOn 30 = .ok (.iload_n 1, 1) := by decide +kernel
theorem dX12_goesOn_31 : decode cX12_goesOn 31 = .ok (.iadd, 1) := by decide +kernel
theorem dX12_goesOn_32 : decode cX12_goesOn 32 = .ok (.istore 5, 2) := by decide +kernel
theorem dX12_goesOn_34 : decode cX12_goesOn 34 = .ok (.aload_n 0, 1) := by decide +kernel
theorem dX12_goesOn_35 : decode cX12_goesOn 35 = .ok (.getfield 7, 3) := by decide +kernel
theorem dX12_goesOn_38 : decode cX12_goesOn 38 = .ok (.iload_n 3, 1) := by decide +kernel
theorem dX12_goesOn_39 : decode cX12_goesOn 39 = .ok (.bipush 6, 2) := by decide +kernel
theorem dX12_goesOn_41 : decode cX12_goesOn 41 = .ok (.idiv, 1) := by decide +kernel
theorem dX12_goesOn_42 : decode cX12_goesOn 42 = .ok (.iaload, 1) := by decide +kernel
theorem dX12_goesOn_43 : decode cX12_goesOn 43 = .ok (.iload_n 3, 1) := by decide +kernel
theorem dX12_goesOn_44 : decode cX12_goesOn 44 = .ok (.bipush 6, 2) := by decide +kernel
theorem dX12_goesOn_46 : decode cX12_goesOn 46 = .ok (.irem, 1) := by decide +kernel
theorem dX12_goesOn_47 : decode cX12_goesOn 47 = .ok (.ishr, 1) := by decide +kernel
theorem dX12_goesOn_48 : decode cX12_goesOn 48 = .ok (.iconst 1, 1) := by decide +kernel
theorem dX12_goesOn_49 : decode cX12_goesOn 49 = .ok (.iand, 1) := by decide +kernel
theorem dX12_goesOn_50 : decode cX12_goesOn 50 = .ok (.iconst 1, 1) := by decide +kernel
theorem dX12_goesOn_51 : decode cX12_goesOn 51 = .ok (.if_icmp .ne 7, 3) := by decide +kernel
theorem dX12_goesOn_54 : decode cX12_goesOn 54 = .ok (.iconst 1, 1) := by decide +kernel
theorem dX12_goesOn_55 : decode cX12_goesOn 55 = .ok (.goto 4, 3) := by decide +kernel
theorem dX12_goesOn_58 : decode cX12_goesOn 58 = .ok (.iconst 0, 1) := by decide +kernel
theorem dX12_goesOn_59 : decode cX12_goesOn 59 = .ok (.istore 6, 2) := by decide +kernel
theorem dX12_goesOn_61 : decode cX12_goesOn 61 = .ok (.iload 6, 2) := by decide +kernel
theorem dX12_goesOn_63 : decode cX12_goesOn 63 = .ok (.ifCond .eq 48, 3) := by decide +kernel
theorem dX12_goesOn_66 : decode cX12_goesOn 66 = .ok (.aload_n 0, 1) := by decide +kernel
theorem dX12_goesOn_67 : decode cX12_goesOn 67 = .ok (.getfield 31, 3) := by decide +kernel
theorem dX12_goesOn_70 : decode cX12_goesOn 70 = .ok (.iload 5, 2) := by decide +kernel
theorem dX12_goesOn_72 : decode cX12_goesOn 72 = .ok (.iaload, 1) := by decide +kernel
theorem dX12_goesOn_73 : decode cX12_goesOn 73 = .ok (.iconst (-1), 1) := by decide +kernel
theorem dX12_goesOn_74 : decode cX12_goesOn 74 = .ok (.if_icmp .ne 37, 3) := by decide +kernel
theorem dX12_goesOn_77 : decode cX12_goesOn 77 = .ok (.aload_n 0, 1) := by decide +kernel
theorem dX12_goesOn_78 : decode cX12_goesOn 78 = .ok (.getfield 31, 3) := by decide +kernel
theorem dX12_goesOn_81 : decode cX12_goesOn 81 = .ok (.iload 4, 2) := by decide +kernel
theorem dX12_goesOn_83 : decode cX12_goesOn 83 = .ok (.iaload, 1) := by decide +kernel
theorem dX12_goesOn_84 : decode cX12_goesOn 84 = .ok (.iconst 0, 1) := by decide +kernel
theorem dX12_goesOn_85 : decode cX12_goesOn 85 = .ok (.aload_n 0, 1) := by decide +kernel
theorem dX12_goesOn_86 : decode cX12_goesOn 86 = .ok (.getfield 150, 3) := by decide +kernel
theorem dX12_goesOn_89 : decode cX12_goesOn 89 = .ok (.iconst 1, 1) := by decide +kernel
theorem dX12_goesOn_90 : decode cX12_goesOn 90 = .ok (.isub, 1) := by decide +kernel
theorem dX12_goesOn_91 : decode cX12_goesOn 91 = .ok (.invokestatic 124, 3) := by decide +kernel
theorem dX12_goesOn_94 : decode cX12_goesOn 94 = .ok (.ifCond .eq 17, 3) := by decide +kernel
theorem dX12_goesOn_97 : decode cX12_goesOn 97 = .ok (.aload_n 0, 1) := by decide +kernel
theorem dX12_goesOn_98 : decode cX12_goesOn 98 = .ok (.getfield 31, 3) := by decide +kernel
theorem dX12_goesOn_101 : decode cX12_goesOn 101 = .ok (.iload 5, 2) := by decide +kernel
theorem dX12_goesOn_103 : decode cX12_goesOn 103 = .ok (.aload_n 0, 1) := by decide +kernel
theorem dX12_goesOn_104 : decode cX12_goesOn 104 = .ok (.getfield 150, 3) := by decide +kernel
theorem dX12_goesOn_107 : decode cX12_goesOn 107 = .ok (.iastore, 1) := by decide +kernel
theorem dX12_goesOn_108 : decode cX12_goesOn 108 = .ok (.iinc 2 1, 3) := by decide +kernel
theorem dX12_goesOn_111 : decode cX12_goesOn 111 = .ok (.iinc 3 1, 3) := by decide +kernel
theorem dX12_goesOn_114 : decode cX12_goesOn 114 = .ok (.goto (-110), 3) := by decide +kernel
theorem dX12_goesOn_117 : decode cX12_goesOn 117 = .ok (.iload_n 2, 1) := by decide +kernel
theorem dX12_goesOn_118 : decode cX12_goesOn 118 = .ok (.ireturn, 1) := by decide +kernel
theorem dX12_pass_0 : decode cX12_pass 0 = .ok (.aload_n 0, 1) := by decide +kernel
theorem dX12_pass_1 : decode cX12_pass 1 = .ok (.iload_n 1, 1) := by decide +kernel
theorem dX12_pass_2 : decode cX12_pass 2 = .ok (.iconst 1, 1) := by decide +kernel
theorem dX12_pass_3 : decode cX12_pass 3 = .ok (.bipush 50, 2) := by decide +kernel
theorem dX12_pass_5 : decode cX12_pass 5 = .ok (.invokestatic 124, 3) := by decide +kernel
theorem dX12_pass_8 : decode cX12_pass 8 = .ok (.ifCond .ne 7, 3) := by decide +kernel
theorem dX12_pass_11 : decode cX12_pass 11 = .ok (.iconst 1, 1) := by decide +kernel
theorem dX12_pass_12 : decode cX12_pass 12 = .ok (.goto 20, 3) := by decide +kernel
theorem dX12_pass_15 : decode cX12_pass 15 = .ok (.aload_n 0, 1) := by decide +kernel
theorem dX12_pass_16 : decode cX12_pass 16 = .ok (.getfield 150, 3) := by decide +kernel
theorem dX12_pass_19 : decode cX12_pass 19 = .ok (.iload_n 1, 1) := by decide +kernel
theorem dX12_pass_20 : decode cX12_pass 20 = .ok (.iadd, 1) := by decide +kernel
theorem dX12_pass_21 : decode cX12_pass 21 = .ok (.sipush 400, 3) := by decide +kernel
theorem dX12_pass_24 : decode cX12_pass 24 = .ok (.if_icmp .le 7, 3) := by decide +kernel
theorem dX12_pass_27 : decode cX12_pass 27 = .ok (.iconst 2, 1) := by decide +kernel
theorem dX12_pass_28 : decode cX12_pass 28 = .ok (.goto 4, 3) := by decide +kernel
theorem dX12_pass_31 : decode cX12_pass 31 = .ok (.iconst 0, 1) := by decide +kernel
theorem dX12_pass_32 : decode cX12_pass 32 = .ok (.invokevirtual 143, 3) := by decide +kernel
theorem dX12_pass_35 : decode cX12_pass 35 = .ok (.ifCond .ne 5, 3) := by decide +kernel
theorem dX12_pass_38 : decode cX12_pass 38 = .ok (.iconst 0, 1) := by decide +kernel
theorem dX12_pass_39 : decode cX12_pass 39 = .ok (.ireturn, 1) := by decide +kernel
theorem dX12_pass_40 : decode cX12_pass 40 = .ok (.iconst 0, 1) := by decide +kernel
theorem dX12_pass_41 : decode cX12_pass 41 = .ok (.istore_n 2, 1) := by decide +kernel
theorem dX12_pass_42 : decode cX12_pass 42 = .ok (.iconst 0, 1) := by decide +kernel
theorem dX12_pass_43 : decode cX12_pass 43 = .ok (.istore_n 3, 1) := by decide +kernel
theorem dX12_pass_44 : decode cX12_pass 44 = .ok (.iload_n 3, 1) := by decide +kernel
theorem dX12_pass_45 : decode cX12_pass 45 = .ok (.iload_n 1, 1) := by decide +kernel
theorem dX12_pass_46 : decode cX12_pass 46 = .ok (.if_icmp .ge 46, 3) := by decide +kernel
theorem dX12_pass_49 : decode cX12_pass 49 = .ok (.aload_n 0, 1) := by decide +kernel
theorem dX12_pass_50 : decode cX12_pass 50 = .ok (.dup, 1) := by decide +kernel
theorem dX12_pass_51 : decode cX12_pass 51 = .ok (.getfield 150, 3) := by decide +kernel
theorem dX12_pass_54 : decode cX12_pass 54 = .ok (.iconst 1, 1) := by decide +kernel
theorem dX12_pass_55 : decode cX12_pass 55 = .ok (.iadd, 1) := by decide +kernel
theorem dX12_pass_56 : decode cX12_pass 56 = .ok (.putfield 150, 3) := by decide +kernel
theorem dX12_pass_59 : decode cX12_pass 59 = .ok (.iconst 0, 1) := by decide +kernel
theorem dX12_pass_60 : decode cX12_pass 60 = .ok (.istore 4, 2) := by decide +kernel
theorem dX12_pass_62 : decode cX12_pass 62 = .ok (.iload 4, 2) := by decide +kernel
theorem dX12_pass_64 : decode cX12_pass 64 = .ok (.aload_n 0, 1) := by decide +kernel
theorem dX12_pass_65 : decode cX12_pass 65 = .ok (.getfield 153, 3) := by decide +kernel
theorem dX12_pass_68 : decode cX12_pass 68 = .ok (.if_icmp .ge 18, 3) := by decide +kernel
theorem dX12_pass_71 : decode cX12_pass 71 = .ok (.iload_n 2, 1) := by decide +kernel
theorem dX12_pass_72 : decode cX12_pass 72 = .ok (.aload_n 0, 1) := by decide +kernel
theorem dX12_pass_73 : decode cX12_pass 73 = .ok (.iload 4, 2) := by decide +kernel
theorem dX12_pass_75 : decode cX12_pass 75 = .ok (.invokevirtual 156, 3) := by decide +kernel
theorem dX12_pass_78 : decode cX12_pass 78 = .ok (.iadd, 1) := by decide +kernel
theorem dX12_pass_79 : decode cX12_pass 79 = .ok (.istore_n 2, 1) := by decide +kernel
theorem dX12_pass_80 : decode cX12_pass 80 = .ok (.iinc 4 1, 3) := by decide +kernel
theorem dX12_pass_83 : decode cX12_pass 83 = .ok (.goto (-21), 3) := by decide +kernel
theorem dX12_pass_86 : decode cX12_pass 86 = .ok (.iinc 3 1, 3) := by decide +kernel
theorem dX12_pass_89 : decode cX12_pass 89 = .ok (.goto (-45), 3) := by decide +kernel
theorem dX12_pass_92 : decode cX12_pass 92 = .ok (.iload_n 2, 1) := by decide +kernel
theorem dX12_pass_93 : decode cX12_pass 93 = .ok (.ireturn, 1) := by decide +kernel
theorem dX12_unread_0 : decode cX12_unread 0 = .ok (.iconst 0, 1) := by decide +kernel
theorem dX12_unread_1 : decode cX12_unread 1 = .ok (.istore_n 2, 1) := by decide +kernel
theorem dX12_unread_2 : decode cX12_unread 2 = .ok (.iconst 0, 1) := by decide +kernel
theorem dX12_unread_3 : decode cX12_unread 3 = .ok (.istore_n 3, 1) := by decide +kernel
theorem dX12_unread_4 : decode cX12_unread 4 = .ok (.iload_n 3, 1) := by decide +kernel
theorem dX12_unread_5 : decode cX12_unread 5 = .ok (.aload_n 0, 1) := by decide +kernel
theorem dX12_unread_6 : decode cX12_unread 6 = .ok (.getfield 153, 3) := by decide +kernel
theorem dX12_unread_9 : decode cX12_unread 9 = .ok (.if_icmp .ge 48, 3) := by decide +kernel
theorem dX12_unread_12 : decode cX12_unread 12 = .ok (.iload_n 2, 1) := by decide +kernel
theorem dX12_unread_13 : decode cX12_unread 13 = .ok (.aload_n 0, 1) := by decide +kernel
theorem dX12_unread_14 : decode cX12_unread 14 = .ok (.getfield 31, 3) := by decide +kernel
theorem dX12_unread_17 : decode cX12_unread 17 = .ok (.sipush 160, 3) := by decide +kernel
theorem dX12_unread_20 : decode cX12_unread 20 = .ok (.iload_n 1, 1) := by decide +kernel
theorem dX12_unread_21 : decode cX12_unread 21 = .ok (.imul, 1) := by decide +kernel
theorem dX12_unread_22 : decode cX12_unread 22 = .ok (.iload_n 3, 1) := by decide +kernel
theorem dX12_unread_23 : decode cX12_unread 23 = .ok (.iadd, 1) := by decide +kernel
theorem dX12_unread_24 : decode cX12_unread 24 = .ok (.iaload, 1) := by decide +kernel
theorem dX12_unread_25 : decode cX12_unread 25 = .ok (.iconst (-1), 1) := by decide +kernel
theorem dX12_unread_26 : decode cX12_unread 26 = .ok (.if_icmp .eq 22, 3) := by decide +kernel
theorem dX12_unread_29 : decode cX12_unread 29 = .ok (.aload_n 0, 1) := by decide +kernel
theorem dX12_unread_30 : decode cX12_unread 30 = .ok (.getfield 34, 3) := by decide +kernel
theorem dX12_unread_33 : decode cX12_unread 33 = .ok (.sipush 160, 3) := by decide +kernel
theorem dX12_unread_36 : decode cX12_unread 36 = .ok (.iload_n 1, 1) := by decide +kernel
theorem dX12_unread_37 : decode cX12_unread 37 = .ok (.imul, 1) := by decide +kernel
theorem dX12_unread_38 : decode cX12_unread 38 = .ok (.iload_n 3, 1) := by decide +kernel
theorem dX12_unread_39 : decode cX12_unread 39 = .ok (.iadd, 1) := by decide +kernel
theorem dX12_unread_40 : decode cX12_unread 40 = .ok (.baload, 1) := by decide +kernel
theorem dX12_unread_41 : decode cX12_unread 41 = .ok (.ifCond .ne 7, 3) := by decide +kernel
theorem dX12_unread_44 : decode cX12_unread 44 = .ok (.iconst 1, 1) := by decide +kernel
theorem dX12_unread_45 : decode cX12_unread 45 = .ok (.goto 4, 3) := by decide +kernel
theorem dX12_unread_48 : decode cX12_unread 48 = .ok (.iconst 0, 1) := by decide +kernel
theorem dX12_unread_49 : decode cX12_unread 49 = .ok (.iadd, 1) := by decide +kernel
theorem dX12_unread_50 : decode cX12_unread 50 = .ok (.istore_n 2, 1) := by decide +kernel
theorem dX12_unread_51 : decode cX12_unread 51 = .ok (.iinc 3 1, 3) := by decide +kernel
theorem dX12_unread_54 : decode cX12_unread 54 = .ok (.goto (-50), 3) := by decide +kernel
theorem dX12_unread_57 : decode cX12_unread 57 = .ok (.iload_n 2, 1) := by decide +kernel
theorem dX12_unread_58 : decode cX12_unread 58 = .ok (.ireturn, 1) := by decide +kernel
theorem dX12_read_0 : decode cX12_read 0 = .ok (.aload_n 0, 1) := by decide +kernel
theorem dX12_read_1 : decode cX12_read 1 = .ok (.iload_n 1, 1) := by decide +kernel
theorem dX12_read_2 : decode cX12_read 2 = .ok (.invokestatic 131, 3) := by decide +kernel
theorem dX12_read_5 : decode cX12_read 5 = .ok (.ifCond .eq 7, 3) := by decide +kernel
theorem dX12_read_8 : decode cX12_read 8 = .ok (.iconst 0, 1) := by decide +kernel
theorem dX12_read_9 : decode cX12_read 9 = .ok (.goto 4, 3) := by decide +kernel
theorem dX12_read_12 : decode cX12_read 12 = .ok (.iconst 1, 1) := by decide +kernel
theorem dX12_read_13 : decode cX12_read 13 = .ok (.invokevirtual 143, 3) := by decide +kernel
theorem dX12_read_16 : decode cX12_read 16 = .ok (.ifCond .ne 5, 3) := by decide +kernel
theorem dX12_read_19 : decode cX12_read 19 = .ok (.iconst 0, 1) := by decide +kernel
theorem dX12_read_20 : decode cX12_read 20 = .ok (.ireturn, 1) := by decide +kernel
theorem dX12_read_21 : decode cX12_read 21 = .ok (.aload_n 0, 1) := by decide +kernel
theorem dX12_read_22 : decode cX12_read 22 = .ok (.iload_n 1, 1) := by decide +kernel
theorem dX12_read_23 : decode cX12_read 23 = .ok (.invokevirtual 159, 3) := by decide +kernel
theorem dX12_read_26 : decode cX12_read 26 = .ok (.istore_n 2, 1) := by decide +kernel
theorem dX12_read_27 : decode cX12_read 27 = .ok (.iconst 0, 1) := by decide +kernel
theorem dX12_read_28 : decode cX12_read 28 = .ok (.istore_n 3, 1) := by decide +kernel
theorem dX12_read_29 : decode cX12_read 29 = .ok (.iload_n 3, 1) := by decide +kernel
theorem dX12_read_30 : decode cX12_read 30 = .ok (.aload_n 0, 1) := by decide +kernel
theorem dX12_read_31 : decode cX12_read 31 = .ok (.getfield 153, 3) := by decide +kernel
theorem dX12_read_34 : decode cX12_read 34 = .ok (.if_icmp .ge 42, 3) := by decide +kernel
theorem dX12_read_37 : decode cX12_read 37 = .ok (.aload_n 0, 1) := by decide +kernel
theorem dX12_read_38 : decode cX12_read 38 = .ok (.getfield 34, 3) := by decide +kernel
theorem dX12_read_41 : decode cX12_read 41 = .ok (.sipush 160, 3) := by decide +kernel
theorem dX12_read_44 : decode cX12_read 44 = .ok (.iload_n 1, 1) := by decide +kernel
theorem dX12_read_45 : decode cX12_read 45 = .ok (.imul, 1) := by decide +kernel
theorem dX12_read_46 : decode cX12_read 46 = .ok (.iload_n 3, 1) := by decide +kernel
theorem dX12_read_47 : decode cX12_read 47 = .ok (.iadd, 1) := by decide +kernel
theorem dX12_read_48 : decode cX12_read 48 = .ok (.aload_n 0, 1) := by decide +kernel
theorem dX12_read_49 : decode cX12_read 49 = .ok (.getfield 31, 3) := by decide +kernel
theorem dX12_read_52 : decode cX12_read 52 = .ok (.sipush 160, 3) := by decide +kernel
theorem dX12_read_55 : decode cX12_read 55 = .ok (.iload_n 1, 1) := by decide +kernel
theorem dX12_read_56 : decode cX12_read 56 = .ok (.imul, 1) := by decide +kernel
theorem dX12_read_57 : decode cX12_read 57 = .ok (.iload_n 3, 1) := by decide +kernel
theorem dX12_read_58 : decode cX12_read 58 = .ok (.iadd, 1) := by decide +kernel
theorem dX12_read_59 : decode cX12_read 59 = .ok (.iaload, 1) := by decide +kernel
theorem dX12_read_60 : decode cX12_read 60 = .ok (.iconst (-1), 1) := by decide +kernel
theorem dX12_read_61 : decode cX12_read 61 = .ok (.if_icmp .eq 7, 3) := by decide +kernel
theorem dX12_read_64 : decode cX12_read 64 = .ok (.iconst 1, 1) := by decide +kernel
theorem dX12_read_65 : decode cX12_read 65 = .ok (.goto 4, 3) := by decide +kernel
theorem dX12_read_68 : decode cX12_read 68 = .ok (.iconst 0, 1) := by decide +kernel
theorem dX12_read_69 : decode cX12_read 69 = .ok (.bastore, 1) := by decide +kernel
theorem dX12_read_70 : decode cX12_read 70 = .ok (.iinc 3 1, 3) := by decide +kernel
theorem dX12_read_73 : decode cX12_read 73 = .ok (.goto (-44), 3) := by decide +kernel
theorem dX12_read_76 : decode cX12_read 76 = .ok (.iload_n 2, 1) := by decide +kernel
theorem dX12_read_77 : decode cX12_read 77 = .ok (.ireturn, 1) := by decide +kernel
theorem dX12_makes_0 : decode cX12_makes 0 = .ok (.aload_n 0, 1) := by decide +kernel
theorem dX12_makes_1 : decode cX12_makes 1 = .ok (.getfield 13, 3) := by decide +kernel
theorem dX12_makes_4 : decode cX12_makes 4 = .ok (.aload_n 0, 1) := by decide +kernel
theorem dX12_makes_5 : decode cX12_makes 5 = .ok (.getfield 153, 3) := by decide +kernel
theorem dX12_makes_8 : decode cX12_makes 8 = .ok (.iload_n 2, 1) := by decide +kernel
theorem dX12_makes_9 : decode cX12_makes 9 = .ok (.iastore, 1) := by decide +kernel
theorem dX12_makes_10 : decode cX12_makes 10 = .ok (.aload_n 0, 1) := by decide +kernel
theorem dX12_makes_11 : decode cX12_makes 11 = .ok (.getfield 16, 3) := by decide +kernel
theorem dX12_makes_14 : decode cX12_makes 14 = .ok (.aload_n 0, 1) := by decide +kernel
theorem dX12_makes_15 : decode cX12_makes 15 = .ok (.getfield 153, 3) := by decide +kernel
theorem dX12_makes_18 : decode cX12_makes 18 = .ok (.iload_n 1, 1) := by decide +kernel
theorem dX12_makes_19 : decode cX12_makes 19 = .ok (.iastore, 1) := by decide +kernel
theorem dX12_makes_20 : decode cX12_makes 20 = .ok (.aload_n 0, 1) := by decide +kernel
theorem dX12_makes_21 : decode cX12_makes 21 = .ok (.getfield 19, 3) := by decide +kernel
theorem dX12_makes_24 : decode cX12_makes 24 = .ok (.aload_n 0, 1) := by decide +kernel
theorem dX12_makes_25 : decode cX12_makes 25 = .ok (.getfield 153, 3) := by decide +kernel
theorem dX12_makes_28 : decode cX12_makes 28 = .ok (.aload_n 0, 1) := by decide +kernel
theorem dX12_makes_29 : decode cX12_makes 29 = .ok (.getfield 150, 3) := by decide +kernel
theorem dX12_makes_32 : decode cX12_makes 32 = .ok (.iastore, 1) := by decide +kernel
theorem dX12_makes_33 : decode cX12_makes 33 = .ok (.aload_n 0, 1) := by decide +kernel
theorem dX12_makes_34 : decode cX12_makes 34 = .ok (.getfield 22, 3) := by decide +kernel
theorem dX12_makes_37 : decode cX12_makes 37 = .ok (.aload_n 0, 1) := by decide +kernel
theorem dX12_makes_38 : decode cX12_makes 38 = .ok (.getfield 153, 3) := by decide +kernel
theorem dX12_makes_41 : decode cX12_makes 41 = .ok (.iload_n 3, 1) := by decide +kernel
theorem dX12_makes_42 : decode cX12_makes 42 = .ok (.iastore, 1) := by decide +kernel
theorem dX12_makes_43 : decode cX12_makes 43 = .ok (.aload_n 0, 1) := by decide +kernel
theorem dX12_makes_44 : decode cX12_makes 44 = .ok (.getfield 31, 3) := by decide +kernel
theorem dX12_makes_47 : decode cX12_makes 47 = .ok (.sipush 160, 3) := by decide +kernel
theorem dX12_makes_50 : decode cX12_makes 50 = .ok (.iload_n 1, 1) := by decide +kernel
theorem dX12_makes_51 : decode cX12_makes 51 = .ok (.imul, 1) := by decide +kernel
theorem dX12_makes_52 : decode cX12_makes 52 = .ok (.aload_n 0, 1) := by decide +kernel
theorem dX12_makes_53 : decode cX12_makes 53 = .ok (.getfield 153, 3) := by decide +kernel
theorem dX12_makes_56 : decode cX12_makes 56 = .ok (.iadd, 1) := by decide +kernel
theorem dX12_makes_57 : decode cX12_makes 57 = .ok (.aload_n 0, 1) := by decide +kernel
theorem dX12_makes_58 : decode cX12_makes 58 = .ok (.getfield 150, 3) := by decide +kernel
theorem dX12_makes_61 : decode cX12_makes 61 = .ok (.iastore, 1) := by decide +kernel
theorem dX12_makes_62 : decode cX12_makes 62 = .ok (.aload_n 0, 1) := by decide +kernel
theorem dX12_makes_63 : decode cX12_makes 63 = .ok (.getfield 34, 3) := by decide +kernel
theorem dX12_makes_66 : decode cX12_makes 66 = .ok (.sipush 160, 3) := by decide +kernel
theorem dX12_makes_69 : decode cX12_makes 69 = .ok (.iload_n 1, 1) := by decide +kernel
theorem dX12_makes_70 : decode cX12_makes 70 = .ok (.imul, 1) := by decide +kernel
theorem dX12_makes_71 : decode cX12_makes 71 = .ok (.aload_n 0, 1) := by decide +kernel
theorem dX12_makes_72 : decode cX12_makes 72 = .ok (.getfield 153, 3) := by decide +kernel
theorem dX12_makes_75 : decode cX12_makes 75 = .ok (.iadd, 1) := by decide +kernel
theorem dX12_makes_76 : decode cX12_makes 76 = .ok (.iconst 1, 1) := by decide +kernel
theorem dX12_makes_77 : decode cX12_makes 77 = .ok (.bastore, 1) := by decide +kernel
theorem dX12_makes_78 : decode cX12_makes 78 = .ok (.aload_n 0, 1) := by decide +kernel
theorem dX12_makes_79 : decode cX12_makes 79 = .ok (.dup, 1) := by decide +kernel
theorem dX12_makes_80 : decode cX12_makes 80 = .ok (.getfield 153, 3) := by decide +kernel
theorem dX12_makes_83 : decode cX12_makes 83 = .ok (.iconst 1, 1) := by decide +kernel
theorem dX12_makes_84 : decode cX12_makes 84 = .ok (.iadd, 1) := by decide +kernel
theorem dX12_makes_85 : decode cX12_makes 85 = .ok (.putfield 153, 3) := by decide +kernel
theorem dX12_makes_88 : decode cX12_makes 88 = .ok (.aload_n 0, 1) := by decide +kernel
theorem dX12_makes_89 : decode cX12_makes 89 = .ok (.getfield 153, 3) := by decide +kernel
theorem dX12_makes_92 : decode cX12_makes 92 = .ok (.iconst 1, 1) := by decide +kernel
theorem dX12_makes_93 : decode cX12_makes 93 = .ok (.isub, 1) := by decide +kernel
theorem dX12_makes_94 : decode cX12_makes 94 = .ok (.ireturn, 1) := by decide +kernel
theorem dX12_has_0 : decode cX12_has 0 = .ok (.iload_n 1, 1) := by decide +kernel
theorem dX12_has_1 : decode cX12_has 1 = .ok (.iconst (-1), 1) := by decide +kernel
theorem dX12_has_2 : decode cX12_has 2 = .ok (.if_icmp .ne 5, 3) := by decide +kernel
theorem dX12_has_5 : decode cX12_has 5 = .ok (.iconst 1, 1) := by decide +kernel
theorem dX12_has_6 : decode cX12_has 6 = .ok (.ireturn, 1) := by decide +kernel
theorem dX12_has_7 : decode cX12_has 7 = .ok (.iload_n 1, 1) := by decide +kernel
theorem dX12_has_8 : decode cX12_has 8 = .ok (.bipush 6, 2) := by decide +kernel
theorem dX12_has_10 : decode cX12_has 10 = .ok (.if_icmp .ge 16, 3) := by decide +kernel
theorem dX12_has_13 : decode cX12_has 13 = .ok (.aload_n 0, 1) := by decide +kernel
theorem dX12_has_14 : decode cX12_has 14 = .ok (.getfield 34, 3) := by decide +kernel
theorem dX12_has_17 : decode cX12_has 17 = .ok (.sipush 160, 3) := by decide +kernel
theorem dX12_has_20 : decode cX12_has 20 = .ok (.iload_n 1, 1) := by decide +kernel
theorem dX12_has_21 : decode cX12_has 21 = .ok (.imul, 1) := by decide +kernel
theorem dX12_has_22 : decode cX12_has 22 = .ok (.iload_n 2, 1) := by decide +kernel
theorem dX12_has_23 : decode cX12_has 23 = .ok (.iadd, 1) := by decide +kernel
theorem dX12_has_24 : decode cX12_has 24 = .ok (.baload, 1) := by decide +kernel
theorem dX12_has_25 : decode cX12_has 25 = .ok (.ireturn, 1) := by decide +kernel
theorem dX12_has_26 : decode cX12_has 26 = .ok (.iload_n 1, 1) := by decide +kernel
theorem dX12_has_27 : decode cX12_has 27 = .ok (.bipush 6, 2) := by decide +kernel
theorem dX12_has_29 : decode cX12_has 29 = .ok (.isub, 1) := by decide +kernel
theorem dX12_has_30 : decode cX12_has 30 = .ok (.istore_n 3, 1) := by decide +kernel
theorem dX12_has_31 : decode cX12_has 31 = .ok (.aload_n 0, 1) := by decide +kernel
theorem dX12_has_32 : decode cX12_has 32 = .ok (.getfield 16, 3) := by decide +kernel
theorem dX12_has_35 : decode cX12_has 35 = .ok (.iload_n 3, 1) := by decide +kernel
theorem dX12_has_36 : decode cX12_has 36 = .ok (.iaload, 1) := by decide +kernel
theorem dX12_has_37 : decode cX12_has 37 = .ok (.istore 4, 2) := by decide +kernel
theorem dX12_has_39 : decode cX12_has 39 = .ok (.aload_n 0, 1) := by decide +kernel
theorem dX12_has_40 : decode cX12_has 40 = .ok (.getfield 31, 3) := by decide +kernel
theorem dX12_has_43 : decode cX12_has 43 = .ok (.sipush 160, 3) := by decide +kernel
theorem dX12_has_46 : decode cX12_has 46 = .ok (.iload 4, 2) := by decide +kernel
theorem dX12_has_48 : decode cX12_has 48 = .ok (.imul, 1) := by decide +kernel
theorem dX12_has_49 : decode cX12_has 49 = .ok (.iload_n 2, 1) := by decide +kernel
theorem dX12_has_50 : decode cX12_has 50 = .ok (.iadd, 1) := by decide +kernel
theorem dX12_has_51 : decode cX12_has 51 = .ok (.iaload, 1) := by decide +kernel
theorem dX12_has_52 : decode cX12_has 52 = .ok (.iconst 0, 1) := by decide +kernel
theorem dX12_has_53 : decode cX12_has 53 = .ok (.aload_n 0, 1) := by decide +kernel
theorem dX12_has_54 : decode cX12_has 54 = .ok (.getfield 19, 3) := by decide +kernel
theorem dX12_has_57 : decode cX12_has 57 = .ok (.iload_n 3, 1) := by decide +kernel
theorem dX12_has_58 : decode cX12_has 58 = .ok (.iaload, 1) := by decide +kernel
theorem dX12_has_59 : decode cX12_has 59 = .ok (.invokestatic 124, 3) := by decide +kernel
theorem dX12_has_62 : decode cX12_has 62 = .ok (.ifCond .eq 23, 3) := by decide +kernel
theorem dX12_has_65 : decode cX12_has 65 = .ok (.aload_n 0, 1) := by decide +kernel
theorem dX12_has_66 : decode cX12_has 66 = .ok (.getfield 16, 3) := by decide +kernel
theorem dX12_has_69 : decode cX12_has 69 = .ok (.iload_n 2, 1) := by decide +kernel
theorem dX12_has_70 : decode cX12_has 70 = .ok (.iaload, 1) := by decide +kernel
theorem dX12_has_71 : decode cX12_has 71 = .ok (.iload 4, 2) := by decide +kernel
theorem dX12_has_73 : decode cX12_has 73 = .ok (.if_icmp .ne 8, 3) := by decide +kernel
theorem dX12_has_76 : decode cX12_has 76 = .ok (.iload_n 2, 1) := by decide +kernel
theorem dX12_has_77 : decode cX12_has 77 = .ok (.iload_n 3, 1) := by decide +kernel
theorem dX12_has_78 : decode cX12_has 78 = .ok (.if_icmp .ge 7, 3) := by decide +kernel
theorem dX12_has_81 : decode cX12_has 81 = .ok (.iconst 1, 1) := by decide +kernel
theorem dX12_has_82 : decode cX12_has 82 = .ok (.goto 4, 3) := by decide +kernel
theorem dX12_has_85 : decode cX12_has 85 = .ok (.iconst 0, 1) := by decide +kernel
theorem dX12_has_86 : decode cX12_has 86 = .ok (.ireturn, 1) := by decide +kernel
theorem dX12_isInLine_0 : decode cX12_isInLine 0 = .ok (.iload_n 2, 1) := by decide +kernel
theorem dX12_isInLine_1 : decode cX12_isInLine 1 = .ok (.istore_n 3, 1) := by decide +kernel
theorem dX12_isInLine_2 : decode cX12_isInLine 2 = .ok (.iload_n 3, 1) := by decide +kernel
theorem dX12_isInLine_3 : decode cX12_isInLine 3 = .ok (.iconst (-1), 1) := by decide +kernel
theorem dX12_isInLine_4 : decode cX12_isInLine 4 = .ok (.if_icmp .eq 18, 3) := by decide +kernel
theorem dX12_isInLine_7 : decode cX12_isInLine 7 = .ok (.iload_n 3, 1) := by decide +kernel
theorem dX12_isInLine_8 : decode cX12_isInLine 8 = .ok (.iload_n 1, 1) := by decide +kernel
theorem dX12_isInLine_9 : decode cX12_isInLine 9 = .ok (.if_icmp .eq 13, 3) := by decide +kernel
theorem dX12_isInLine_12 : decode cX12_isInLine 12 = .ok (.aload_n 0, 1) := by decide +kernel
theorem dX12_isInLine_13 : decode cX12_isInLine 13 = .ok (.getfield 47, 3) := by decide +kernel
theorem dX12_isInLine_16 : decode cX12_isInLine 16 = .ok (.iload_n 3, 1) := by decide +kernel
theorem dX12_isInLine_17 : decode cX12_isInLine 17 = .ok (.iaload, 1) := by decide +kernel
theorem dX12_isInLine_18 : decode cX12_isInLine 18 = .ok (.istore_n 3, 1) := by decide +kernel
theorem dX12_isInLine_19 : decode cX12_isInLine 19 = .ok (.goto (-17), 3) := by decide +kernel
theorem dX12_isInLine_22 : decode cX12_isInLine 22 = .ok (.iload_n 3, 1) := by decide +kernel
theorem dX12_isInLine_23 : decode cX12_isInLine 23 = .ok (.iload_n 1, 1) := by decide +kernel
theorem dX12_isInLine_24 : decode cX12_isInLine 24 = .ok (.if_icmp .ne 7, 3) := by decide +kernel
theorem dX12_isInLine_27 : decode cX12_isInLine 27 = .ok (.iconst 1, 1) := by decide +kernel
theorem dX12_isInLine_28 : decode cX12_isInLine 28 = .ok (.goto 4, 3) := by decide +kernel
theorem dX12_isInLine_31 : decode cX12_isInLine 31 = .ok (.iconst 0, 1) := by decide +kernel
theorem dX12_isInLine_32 : decode cX12_isInLine 32 = .ok (.ireturn, 1) := by decide +kernel
theorem dX12_isKnown_0 : decode cX12_isKnown 0 = .ok (.iload_n 2, 1) := by decide +kernel
theorem dX12_isKnown_1 : decode cX12_isKnown 1 = .ok (.istore_n 3, 1) := by decide +kernel
theorem dX12_isKnown_2 : decode cX12_isKnown 2 = .ok (.iload_n 3, 1) := by decide +kernel
theorem dX12_isKnown_3 : decode cX12_isKnown 3 = .ok (.iconst (-1), 1) := by decide +kernel
theorem dX12_isKnown_4 : decode cX12_isKnown 4 = .ok (.if_icmp .eq 29, 3) := by decide +kernel
theorem dX12_isKnown_7 : decode cX12_isKnown 7 = .ok (.aload_n 0, 1) := by decide +kernel
theorem dX12_isKnown_8 : decode cX12_isKnown 8 = .ok (.iload_n 1, 1) := by decide +kernel
theorem dX12_isKnown_9 : decode cX12_isKnown 9 = .ok (.aload_n 0, 1) := by decide +kernel
theorem dX12_isKnown_10 : decode cX12_isKnown 10 = .ok (.getfield 38, 3) := by decide +kernel
theorem dX12_isKnown_13 : decode cX12_isKnown 13 = .ok (.iload_n 3, 1) := by decide +kernel
theorem dX12_isKnown_14 : decode cX12_isKnown 14 = .ok (.iaload, 1) := by decide +kernel
theorem dX12_isKnown_15 : decode cX12_isKnown 15 = .ok (.invokevirtual 162, 3) := by decide +kernel
theorem dX12_isKnown_18 : decode cX12_isKnown 18 = .ok (.ifCond .ne 5, 3) := by decide +kernel
theorem dX12_isKnown_21 : decode cX12_isKnown 21 = .ok (.iconst 0, 1) := by decide +kernel
theorem dX12_isKnown_22 : decode cX12_isKnown 22 = .ok (.ireturn, 1) := by decide +kernel
theorem dX12_isKnown_23 : decode cX12_isKnown 23 = .ok (.aload_n 0, 1) := by decide +kernel
theorem dX12_isKnown_24 : decode cX12_isKnown 24 = .ok (.getfield 47, 3) := by decide +kernel
theorem dX12_isKnown_27 : decode cX12_isKnown 27 = .ok (.iload_n 3, 1) := by decide +kernel
theorem dX12_isKnown_28 : decode cX12_isKnown 28 = .ok (.iaload, 1) := by decide +kernel
theorem dX12_isKnown_29 : decode cX12_isKnown 29 = .ok (.istore_n 3, 1) := by decide +kernel
theorem dX12_isKnown_30 : decode cX12_isKnown 30 = .ok (.goto (-28), 3) := by decide +kernel
theorem dX12_isKnown_33 : decode cX12_isKnown 33 = .ok (.iconst 1, 1) := by decide +kernel
theorem dX12_isKnown_34 : decode cX12_isKnown 34 = .ok (.ireturn, 1) := by decide +kernel
theorem dX12_isRevoked_0 : decode cX12_isRevoked 0 = .ok (.iconst 0, 1) := by decide +kernel
theorem dX12_isRevoked_1 : decode cX12_isRevoked 1 = .ok (.istore_n 3, 1) := by decide +kernel
theorem dX12_isRevoked_2 : decode cX12_isRevoked 2 = .ok (.iload_n 3, 1) := by decide +kernel
theorem dX12_isRevoked_3 : decode cX12_isRevoked 3 = .ok (.aload_n 0, 1) := by decide +kernel
theorem dX12_isRevoked_4 : decode cX12_isRevoked 4 = .ok (.getfield 153, 3) := by decide +kernel
theorem dX12_isRevoked_7 : decode cX12_isRevoked 7 = .ok (.if_icmp .ge 44, 3) := by decide +kernel
theorem dX12_isRevoked_10 : decode cX12_isRevoked 10 = .ok (.aload_n 0, 1) := by decide +kernel
theorem dX12_isRevoked_11 : decode cX12_isRevoked 11 = .ok (.getfield 13, 3) := by decide +kernel
theorem dX12_isRevoked_14 : decode cX12_isRevoked 14 = .ok (.iload_n 3, 1) := by decide +kernel
theorem dX12_isRevoked_15 : decode cX12_isRevoked 15 = .ok (.iaload, 1) := by decide +kernel
theorem dX12_isRevoked_16 : decode cX12_isRevoked 16 = .ok (.iconst 1, 1) := by decide +kernel
theorem dX12_isRevoked_17 : decode cX12_isRevoked 17 = .ok (.if_icmp .ne 28, 3) := by decide +kernel
theorem dX12_isRevoked_20 : decode cX12_isRevoked 20 = .ok (.aload_n 0, 1) := by decide +kernel
theorem dX12_isRevoked_21 : decode cX12_isRevoked 21 = .ok (.aload_n 0, 1) := by decide +kernel
theorem dX12_isRevoked_22 : decode cX12_isRevoked 22 = .ok (.getfield 22, 3) := by decide +kernel
theorem dX12_isRevoked_25 : decode cX12_isRevoked 25 = .ok (.iload_n 3, 1) := by decide +kernel
theorem dX12_isRevoked_26 : decode cX12_isRevoked 26 = .ok (.iaload, 1) := by decide +kernel
theorem dX12_isRevoked_27 : decode cX12_isRevoked 27 = .ok (.iload_n 2, 1) := by decide +kernel
theorem dX12_isRevoked_28 : decode cX12_isRevoked 28 = .ok (.invokevirtual 166, 3) := by decide +kernel
theorem dX12_isRevoked_31 : decode cX12_isRevoked 31 = .ok (.ifCond .eq 14, 3) := by decide +kernel
theorem dX12_isRevoked_34 : decode cX12_isRevoked 34 = .ok (.aload_n 0, 1) := by decide +kernel
theorem dX12_isRevoked_35 : decode cX12_isRevoked 35 = .ok (.iload_n 1, 1) := by decide +kernel
theorem dX12_isRevoked_36 : decode cX12_isRevoked 36 = .ok (.iload_n 3, 1) := by decide +kernel
theorem dX12_isRevoked_37 : decode cX12_isRevoked 37 = .ok (.invokevirtual 162, 3) := by decide +kernel
theorem dX12_isRevoked_40 : decode cX12_isRevoked 40 = .ok (.ifCond .eq 5, 3) := by decide +kernel
theorem dX12_isRevoked_43 : decode cX12_isRevoked 43 = .ok (.iconst 1, 1) := by decide +kernel
theorem dX12_isRevoked_44 : decode cX12_isRevoked 44 = .ok (.ireturn, 1) := by decide +kernel
theorem dX12_isRevoked_45 : decode cX12_isRevoked 45 = .ok (.iinc 3 1, 3) := by decide +kernel
theorem dX12_isRevoked_48 : decode cX12_isRevoked 48 = .ok (.goto (-46), 3) := by decide +kernel
theorem dX12_isRevoked_51 : decode cX12_isRevoked 51 = .ok (.iconst 0, 1) := by decide +kernel
theorem dX12_isRevoked_52 : decode cX12_isRevoked 52 = .ok (.ireturn, 1) := by decide +kernel
theorem dX12_isOver_0 : decode cX12_isOver 0 = .ok (.iload_n 1, 1) := by decide +kernel
theorem dX12_isOver_1 : decode cX12_isOver 1 = .ok (.istore_n 3, 1) := by decide +kernel
theorem dX12_isOver_2 : decode cX12_isOver 2 = .ok (.iload_n 3, 1) := by decide +kernel
theorem dX12_isOver_3 : decode cX12_isOver 3 = .ok (.iconst (-1), 1) := by decide +kernel
theorem dX12_isOver_4 : decode cX12_isOver 4 = .ok (.if_icmp .eq 25, 3) := by decide +kernel
theorem dX12_isOver_7 : decode cX12_isOver 7 = .ok (.iload_n 2, 1) := by decide +kernel
theorem dX12_isOver_8 : decode cX12_isOver 8 = .ok (.aload_n 0, 1) := by decide +kernel

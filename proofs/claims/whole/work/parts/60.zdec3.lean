theorem dX12_done_28 : decode cX12_done 28 = .ok (.iload_n 1, 1) := by decide +kernel
theorem dX12_done_29 : decode cX12_done 29 = .ok (.iload_n 2, 1) := by decide +kernel
theorem dX12_done_30 : decode cX12_done 30 = .ok (.invokevirtual 169, 3) := by decide +kernel
theorem dX12_done_33 : decode cX12_done 33 = .ok (.goto 4, 3) := by decide +kernel
theorem dX12_done_36 : decode cX12_done 36 = .ok (.iconst 0, 1) := by decide +kernel
theorem dX12_done_37 : decode cX12_done 37 = .ok (.ireturn, 1) := by decide +kernel
theorem dX12_beyond_0 : decode cX12_beyond 0 = .ok (.aload_n 0, 1) := by decide +kernel
theorem dX12_beyond_1 : decode cX12_beyond 1 = .ok (.aload_n 0, 1) := by decide +kernel
theorem dX12_beyond_2 : decode cX12_beyond 2 = .ok (.iload_n 1, 1) := by decide +kernel
theorem dX12_beyond_3 : decode cX12_beyond 3 = .ok (.invokevirtual 217, 3) := by decide +kernel
theorem dX12_beyond_6 : decode cX12_beyond 6 = .ok (.ifCond .eq 7, 3) := by decide +kernel
theorem dX12_beyond_9 : decode cX12_beyond 9 = .ok (.iconst 0, 1) := by decide +kernel
theorem dX12_beyond_10 : decode cX12_beyond 10 = .ok (.goto 4, 3) := by decide +kernel
theorem dX12_beyond_13 : decode cX12_beyond 13 = .ok (.iconst 1, 1) := by decide +kernel
theorem dX12_beyond_14 : decode cX12_beyond 14 = .ok (.invokevirtual 143, 3) := by decide +kernel
theorem dX12_beyond_17 : decode cX12_beyond 17 = .ok (.ifCond .ne 5, 3) := by decide +kernel
theorem dX12_beyond_20 : decode cX12_beyond 20 = .ok (.iconst 0, 1) := by decide +kernel
theorem dX12_beyond_21 : decode cX12_beyond 21 = .ok (.ireturn, 1) := by decide +kernel
theorem dX12_beyond_22 : decode cX12_beyond 22 = .ok (.aload_n 0, 1) := by decide +kernel
theorem dX12_beyond_23 : decode cX12_beyond 23 = .ok (.iconst (-1), 1) := by decide +kernel
theorem dX12_beyond_24 : decode cX12_beyond 24 = .ok (.iload_n 1, 1) := by decide +kernel
theorem dX12_beyond_25 : decode cX12_beyond 25 = .ok (.invokevirtual 169, 3) := by decide +kernel
theorem dX12_beyond_28 : decode cX12_beyond 28 = .ok (.aload_n 0, 1) := by decide +kernel
theorem dX12_beyond_29 : decode cX12_beyond 29 = .ok (.getfield 56, 3) := by decide +kernel
theorem dX12_beyond_32 : decode cX12_beyond 32 = .ok (.iload_n 1, 1) := by decide +kernel
theorem dX12_beyond_33 : decode cX12_beyond 33 = .ok (.iaload, 1) := by decide +kernel
theorem dX12_beyond_34 : decode cX12_beyond 34 = .ok (.isub, 1) := by decide +kernel
theorem dX12_beyond_35 : decode cX12_beyond 35 = .ok (.istore_n 2, 1) := by decide +kernel
theorem dX12_beyond_36 : decode cX12_beyond 36 = .ok (.iload_n 2, 1) := by decide +kernel
theorem dX12_beyond_37 : decode cX12_beyond 37 = .ok (.ifCond .le 7, 3) := by decide +kernel
theorem dX12_beyond_40 : decode cX12_beyond 40 = .ok (.iload_n 2, 1) := by decide +kernel
theorem dX12_beyond_41 : decode cX12_beyond 41 = .ok (.goto 4, 3) := by decide +kernel
theorem dX12_beyond_44 : decode cX12_beyond 44 = .ok (.iconst 0, 1) := by decide +kernel
theorem dX12_beyond_45 : decode cX12_beyond 45 = .ok (.ireturn, 1) := by decide +kernel
theorem dX12_against_0 : decode cX12_against 0 = .ok (.aload_n 0, 1) := by decide +kernel
theorem dX12_against_1 : decode cX12_against 1 = .ok (.iload_n 1, 1) := by decide +kernel
theorem dX12_against_2 : decode cX12_against 2 = .ok (.iload_n 2, 1) := by decide +kernel
theorem dX12_against_3 : decode cX12_against 3 = .ok (.iload_n 3, 1) := by decide +kernel
theorem dX12_against_4 : decode cX12_against 4 = .ok (.invokevirtual 251, 3) := by decide +kernel
theorem dX12_against_7 : decode cX12_against 7 = .ok (.istore 5, 2) := by decide +kernel
theorem dX12_against_9 : decode cX12_against 9 = .ok (.aload_n 0, 1) := by decide +kernel
theorem dX12_against_10 : decode cX12_against 10 = .ok (.iload 5, 2) := by decide +kernel
theorem dX12_against_12 : decode cX12_against 12 = .ok (.ifCond .ne 7, 3) := by decide +kernel
theorem dX12_against_15 : decode cX12_against 15 = .ok (.iconst 1, 1) := by decide +kernel
theorem dX12_against_16 : decode cX12_against 16 = .ok (.goto 20, 3) := by decide +kernel
theorem dX12_against_19 : decode cX12_against 19 = .ok (.iload 4, 2) := by decide +kernel
theorem dX12_against_21 : decode cX12_against 21 = .ok (.iconst 1, 1) := by decide +kernel
theorem dX12_against_22 : decode cX12_against 22 = .ok (.sipush 10000, 3) := by decide +kernel
theorem dX12_against_25 : decode cX12_against 25 = .ok (.invokestatic 124, 3) := by decide +kernel
theorem dX12_against_28 : decode cX12_against 28 = .ok (.ifCond .eq 7, 3) := by decide +kernel
theorem dX12_against_31 : decode cX12_against 31 = .ok (.iconst 0, 1) := by decide +kernel
theorem dX12_against_32 : decode cX12_against 32 = .ok (.goto 4, 3) := by decide +kernel
theorem dX12_against_35 : decode cX12_against 35 = .ok (.iconst 2, 1) := by decide +kernel
theorem dX12_against_36 : decode cX12_against 36 = .ok (.invokevirtual 143, 3) := by decide +kernel
theorem dX12_against_39 : decode cX12_against 39 = .ok (.ifCond .eq 15, 3) := by decide +kernel
theorem dX12_against_42 : decode cX12_against 42 = .ok (.aload_n 0, 1) := by decide +kernel
theorem dX12_against_43 : decode cX12_against 43 = .ok (.iload_n 1, 1) := by decide +kernel
theorem dX12_against_44 : decode cX12_against 44 = .ok (.iload_n 2, 1) := by decide +kernel
theorem dX12_against_45 : decode cX12_against 45 = .ok (.iload_n 3, 1) := by decide +kernel
theorem dX12_against_46 : decode cX12_against 46 = .ok (.iload 4, 2) := by decide +kernel
theorem dX12_against_48 : decode cX12_against 48 = .ok (.invokevirtual 254, 3) := by decide +kernel
theorem dX12_against_51 : decode cX12_against 51 = .ok (.goto 4, 3) := by decide +kernel
theorem dX12_against_54 : decode cX12_against 54 = .ok (.iconst 0, 1) := by decide +kernel
theorem dX12_against_55 : decode cX12_against 55 = .ok (.ireturn, 1) := by decide +kernel
theorem dX12_choices_0 : decode cX12_choices 0 = .ok (.iload_n 1, 1) := by decide +kernel
theorem dX12_choices_1 : decode cX12_choices 1 = .ok (.invokestatic 131, 3) := by decide +kernel
theorem dX12_choices_4 : decode cX12_choices 4 = .ok (.ifCond .eq 14, 3) := by decide +kernel
theorem dX12_choices_7 : decode cX12_choices 7 = .ok (.iload_n 2, 1) := by decide +kernel
theorem dX12_choices_8 : decode cX12_choices 8 = .ok (.invokestatic 206, 3) := by decide +kernel
theorem dX12_choices_11 : decode cX12_choices 11 = .ok (.ifCond .eq 7, 3) := by decide +kernel
theorem dX12_choices_14 : decode cX12_choices 14 = .ok (.iconst 1, 1) := by decide +kernel
theorem dX12_choices_15 : decode cX12_choices 15 = .ok (.goto 4, 3) := by decide +kernel
theorem dX12_choices_18 : decode cX12_choices 18 = .ok (.iconst 0, 1) := by decide +kernel
theorem dX12_choices_19 : decode cX12_choices 19 = .ok (.istore 4, 2) := by decide +kernel
theorem dX12_choices_21 : decode cX12_choices 21 = .ok (.aload_n 0, 1) := by decide +kernel
theorem dX12_choices_22 : decode cX12_choices 22 = .ok (.iload 4, 2) := by decide +kernel
theorem dX12_choices_24 : decode cX12_choices 24 = .ok (.ifCond .ne 7, 3) := by decide +kernel
theorem dX12_choices_27 : decode cX12_choices 27 = .ok (.iconst 1, 1) := by decide +kernel
theorem dX12_choices_28 : decode cX12_choices 28 = .ok (.goto 19, 3) := by decide +kernel
theorem dX12_choices_31 : decode cX12_choices 31 = .ok (.iload_n 3, 1) := by decide +kernel
theorem dX12_choices_32 : decode cX12_choices 32 = .ok (.iconst 1, 1) := by decide +kernel
theorem dX12_choices_33 : decode cX12_choices 33 = .ok (.sipush 10000, 3) := by decide +kernel
theorem dX12_choices_36 : decode cX12_choices 36 = .ok (.invokestatic 124, 3) := by decide +kernel
theorem dX12_choices_39 : decode cX12_choices 39 = .ok (.ifCond .eq 7, 3) := by decide +kernel
theorem dX12_choices_42 : decode cX12_choices 42 = .ok (.iconst 0, 1) := by decide +kernel
theorem dX12_choices_43 : decode cX12_choices 43 = .ok (.goto 4, 3) := by decide +kernel
theorem dX12_choices_46 : decode cX12_choices 46 = .ok (.iconst 2, 1) := by decide +kernel
theorem dX12_choices_47 : decode cX12_choices 47 = .ok (.invokevirtual 143, 3) := by decide +kernel
theorem dX12_choices_50 : decode cX12_choices 50 = .ok (.ifCond .ne 5, 3) := by decide +kernel
theorem dX12_choices_53 : decode cX12_choices 53 = .ok (.iconst 0, 1) := by decide +kernel
theorem dX12_choices_54 : decode cX12_choices 54 = .ok (.ireturn, 1) := by decide +kernel
theorem dX12_choices_55 : decode cX12_choices 55 = .ok (.iconst 0, 1) := by decide +kernel
theorem dX12_choices_56 : decode cX12_choices 56 = .ok (.istore 5, 2) := by decide +kernel
theorem dX12_choices_58 : decode cX12_choices 58 = .ok (.iconst 0, 1) := by decide +kernel
theorem dX12_choices_59 : decode cX12_choices 59 = .ok (.istore 6, 2) := by decide +kernel
theorem dX12_choices_61 : decode cX12_choices 61 = .ok (.iload 6, 2) := by decide +kernel
theorem dX12_choices_63 : decode cX12_choices 63 = .ok (.aload_n 0, 1) := by decide +kernel
theorem dX12_choices_64 : decode cX12_choices 64 = .ok (.getfield 128, 3) := by decide +kernel
theorem dX12_choices_67 : decode cX12_choices 67 = .ok (.if_icmp .ge 31, 3) := by decide +kernel
theorem dX12_choices_70 : decode cX12_choices 70 = .ok (.iload 5, 2) := by decide +kernel
theorem dX12_choices_72 : decode cX12_choices 72 = .ok (.aload_n 0, 1) := by decide +kernel
theorem dX12_choices_73 : decode cX12_choices 73 = .ok (.iload_n 1, 1) := by decide +kernel
theorem dX12_choices_74 : decode cX12_choices 74 = .ok (.iload_n 2, 1) := by decide +kernel
theorem dX12_choices_75 : decode cX12_choices 75 = .ok (.iload 6, 2) := by decide +kernel
theorem dX12_choices_77 : decode cX12_choices 77 = .ok (.iload_n 3, 1) := by decide +kernel
theorem dX12_choices_78 : decode cX12_choices 78 = .ok (.invokevirtual 254, 3) := by decide +kernel
theorem dX12_choices_81 : decode cX12_choices 81 = .ok (.ifCond .ne 7, 3) := by decide +kernel
theorem dX12_choices_84 : decode cX12_choices 84 = .ok (.iconst 1, 1) := by decide +kernel
theorem dX12_choices_85 : decode cX12_choices 85 = .ok (.goto 4, 3) := by decide +kernel
theorem dX12_choices_88 : decode cX12_choices 88 = .ok (.iconst 0, 1) := by decide +kernel
theorem dX12_choices_89 : decode cX12_choices 89 = .ok (.iadd, 1) := by decide +kernel
theorem dX12_choices_90 : decode cX12_choices 90 = .ok (.istore 5, 2) := by decide +kernel
theorem dX12_choices_92 : decode cX12_choices 92 = .ok (.iinc 6 1, 3) := by decide +kernel
theorem dX12_choices_95 : decode cX12_choices 95 = .ok (.goto (-34), 3) := by decide +kernel
theorem dX12_choices_98 : decode cX12_choices 98 = .ok (.iload 5, 2) := by decide +kernel
theorem dX12_choices_100 : decode cX12_choices 100 = .ok (.ireturn, 1) := by decide +kernel
theorem dX12_isThere_0 : decode cX12_isThere 0 = .ok (.aload_n 0, 1) := by decide +kernel
theorem dX12_isThere_1 : decode cX12_isThere 1 = .ok (.aload_n 0, 1) := by decide +kernel
theorem dX12_isThere_2 : decode cX12_isThere 2 = .ok (.iload_n 1, 1) := by decide +kernel
theorem dX12_isThere_3 : decode cX12_isThere 3 = .ok (.iload_n 2, 1) := by decide +kernel
theorem dX12_isThere_4 : decode cX12_isThere 4 = .ok (.invokevirtual 269, 3) := by decide +kernel
theorem dX12_isThere_7 : decode cX12_isThere 7 = .ok (.ifCond .eq 7, 3) := by decide +kernel
theorem dX12_isThere_10 : decode cX12_isThere 10 = .ok (.iconst 0, 1) := by decide +kernel
theorem dX12_isThere_11 : decode cX12_isThere 11 = .ok (.goto 4, 3) := by decide +kernel
theorem dX12_isThere_14 : decode cX12_isThere 14 = .ok (.iconst 1, 1) := by decide +kernel
theorem dX12_isThere_15 : decode cX12_isThere 15 = .ok (.invokevirtual 143, 3) := by decide +kernel
theorem dX12_isThere_18 : decode cX12_isThere 18 = .ok (.ireturn, 1) := by decide +kernel
theorem dX12_stands_0 : decode cX12_stands 0 = .ok (.aload_n 0, 1) := by decide +kernel
theorem dX12_stands_1 : decode cX12_stands 1 = .ok (.iload_n 1, 1) := by decide +kernel
theorem dX12_stands_2 : decode cX12_stands 2 = .ok (.iload_n 2, 1) := by decide +kernel
theorem dX12_stands_3 : decode cX12_stands 3 = .ok (.invokevirtual 290, 3) := by decide +kernel
theorem dX12_stands_6 : decode cX12_stands 6 = .ok (.ifCond .eq 27, 3) := by decide +kernel
theorem dX12_stands_9 : decode cX12_stands 9 = .ok (.aload_n 0, 1) := by decide +kernel
theorem dX12_stands_10 : decode cX12_stands 10 = .ok (.getfield 97, 3) := by decide +kernel
theorem dX12_stands_13 : decode cX12_stands 13 = .ok (.aload_n 0, 1) := by decide +kernel
theorem dX12_stands_14 : decode cX12_stands 14 = .ok (.getfield 82, 3) := by decide +kernel
theorem dX12_stands_17 : decode cX12_stands 17 = .ok (.sipush 160, 3) := by decide +kernel
theorem dX12_stands_20 : decode cX12_stands 20 = .ok (.iload_n 1, 1) := by decide +kernel
theorem dX12_stands_21 : decode cX12_stands 21 = .ok (.imul, 1) := by decide +kernel
theorem dX12_stands_22 : decode cX12_stands 22 = .ok (.iload_n 2, 1) := by decide +kernel
theorem dX12_stands_23 : decode cX12_stands 23 = .ok (.iadd, 1) := by decide +kernel
theorem dX12_stands_24 : decode cX12_stands 24 = .ok (.iaload, 1) := by decide +kernel
theorem dX12_stands_25 : decode cX12_stands 25 = .ok (.baload, 1) := by decide +kernel
theorem dX12_stands_26 : decode cX12_stands 26 = .ok (.ifCond .eq 7, 3) := by decide +kernel
theorem dX12_stands_29 : decode cX12_stands 29 = .ok (.iconst 1, 1) := by decide +kernel
theorem dX12_stands_30 : decode cX12_stands 30 = .ok (.goto 4, 3) := by decide +kernel
theorem dX12_stands_33 : decode cX12_stands 33 = .ok (.iconst 0, 1) := by decide +kernel
theorem dX12_stands_34 : decode cX12_stands 34 = .ok (.ireturn, 1) := by decide +kernel
theorem dX12_fault_0 : decode cX12_fault 0 = .ok (.aload_n 0, 1) := by decide +kernel
theorem dX12_fault_1 : decode cX12_fault 1 = .ok (.iload_n 1, 1) := by decide +kernel
theorem dX12_fault_2 : decode cX12_fault 2 = .ok (.iload_n 2, 1) := by decide +kernel
theorem dX12_fault_3 : decode cX12_fault 3 = .ok (.invokevirtual 290, 3) := by decide +kernel
theorem dX12_fault_6 : decode cX12_fault 6 = .ok (.ifCond .eq 22, 3) := by decide +kernel
theorem dX12_fault_9 : decode cX12_fault 9 = .ok (.aload_n 0, 1) := by decide +kernel
theorem dX12_fault_10 : decode cX12_fault 10 = .ok (.aload_n 0, 1) := by decide +kernel
theorem dX12_fault_11 : decode cX12_fault 11 = .ok (.getfield 82, 3) := by decide +kernel
theorem dX12_fault_14 : decode cX12_fault 14 = .ok (.sipush 160, 3) := by decide +kernel
theorem dX12_fault_17 : decode cX12_fault 17 = .ok (.iload_n 1, 1) := by decide +kernel
theorem dX12_fault_18 : decode cX12_fault 18 = .ok (.imul, 1) := by decide +kernel
theorem dX12_fault_19 : decode cX12_fault 19 = .ok (.iload_n 2, 1) := by decide +kernel
theorem dX12_fault_20 : decode cX12_fault 20 = .ok (.iadd, 1) := by decide +kernel
theorem dX12_fault_21 : decode cX12_fault 21 = .ok (.iaload, 1) := by decide +kernel
theorem dX12_fault_22 : decode cX12_fault 22 = .ok (.invokevirtual 266, 3) := by decide +kernel
theorem dX12_fault_25 : decode cX12_fault 25 = .ok (.goto 4, 3) := by decide +kernel
theorem dX12_fault_28 : decode cX12_fault 28 = .ok (.iconst 0, 1) := by decide +kernel
theorem dX12_fault_29 : decode cX12_fault 29 = .ok (.ireturn, 1) := by decide +kernel
theorem dX12_standing_0 : decode cX12_standing 0 = .ok (.aload_n 0, 1) := by decide +kernel
theorem dX12_standing_1 : decode cX12_standing 1 = .ok (.iconst 0, 1) := by decide +kernel
theorem dX12_standing_2 : decode cX12_standing 2 = .ok (.putfield 121, 3) := by decide +kernel
theorem dX12_standing_5 : decode cX12_standing 5 = .ok (.iconst 0, 1) := by decide +kernel
theorem dX12_standing_6 : decode cX12_standing 6 = .ok (.istore_n 1, 1) := by decide +kernel
theorem dX12_standing_7 : decode cX12_standing 7 = .ok (.iconst 0, 1) := by decide +kernel
theorem dX12_standing_8 : decode cX12_standing 8 = .ok (.istore_n 2, 1) := by decide +kernel
theorem dX12_standing_9 : decode cX12_standing 9 = .ok (.iload_n 2, 1) := by decide +kernel
theorem dX12_standing_10 : decode cX12_standing 10 = .ok (.aload_n 0, 1) := by decide +kernel
theorem dX12_standing_11 : decode cX12_standing 11 = .ok (.getfield 260, 3) := by decide +kernel
theorem dX12_standing_14 : decode cX12_standing 14 = .ok (.if_icmp .ge 26, 3) := by decide +kernel
theorem dX12_standing_17 : decode cX12_standing 17 = .ok (.iload_n 1, 1) := by decide +kernel
theorem dX12_standing_18 : decode cX12_standing 18 = .ok (.aload_n 0, 1) := by decide +kernel
theorem dX12_standing_19 : decode cX12_standing 19 = .ok (.getfield 97, 3) := by decide +kernel
theorem dX12_standing_22 : decode cX12_standing 22 = .ok (.iload_n 2, 1) := by decide +kernel
theorem dX12_standing_23 : decode cX12_standing 23 = .ok (.baload, 1) := by decide +kernel
theorem dX12_standing_24 : decode cX12_standing 24 = .ok (.ifCond .eq 7, 3) := by decide +kernel
theorem dX12_standing_27 : decode cX12_standing 27 = .ok (.iconst 1, 1) := by decide +kernel
theorem dX12_standing_28 : decode cX12_standing 28 = .ok (.goto 4, 3) := by decide +kernel
theorem dX12_standing_31 : decode cX12_standing 31 = .ok (.iconst 0, 1) := by decide +kernel
theorem dX12_standing_32 : decode cX12_standing 32 = .ok (.iadd, 1) := by decide +kernel
theorem dX12_standing_33 : decode cX12_standing 33 = .ok (.istore_n 1, 1) := by decide +kernel
theorem dX12_standing_34 : decode cX12_standing 34 = .ok (.iinc 2 1, 3) := by decide +kernel
theorem dX12_standing_37 : decode cX12_standing 37 = .ok (.goto (-28), 3) := by decide +kernel
theorem dX12_standing_40 : decode cX12_standing 40 = .ok (.iload_n 1, 1) := by decide +kernel
theorem dX12_standing_41 : decode cX12_standing 41 = .ok (.ireturn, 1) := by decide +kernel
theorem dX12_pieceOf_0 : decode cX12_pieceOf 0 = .ok (.aload_n 0, 1) := by decide +kernel
theorem dX12_pieceOf_1 : decode cX12_pieceOf 1 = .ok (.iload_n 1, 1) := by decide +kernel
theorem dX12_pieceOf_2 : decode cX12_pieceOf 2 = .ok (.iload_n 2, 1) := by decide +kernel
theorem dX12_pieceOf_3 : decode cX12_pieceOf 3 = .ok (.invokevirtual 290, 3) := by decide +kernel
theorem dX12_pieceOf_6 : decode cX12_pieceOf 6 = .ok (.ifCond .eq 23, 3) := by decide +kernel
theorem dX12_pieceOf_9 : decode cX12_pieceOf 9 = .ok (.aload_n 0, 1) := by decide +kernel
theorem dX12_pieceOf_10 : decode cX12_pieceOf 10 = .ok (.getfield 85, 3) := by decide +kernel
theorem dX12_pieceOf_13 : decode cX12_pieceOf 13 = .ok (.aload_n 0, 1) := by decide +kernel
theorem dX12_pieceOf_14 : decode cX12_pieceOf 14 = .ok (.getfield 82, 3) := by decide +kernel
theorem dX12_pieceOf_17 : decode cX12_pieceOf 17 = .ok (.sipush 160, 3) := by decide +kernel
theorem dX12_pieceOf_20 : decode cX12_pieceOf 20 = .ok (.iload_n 1, 1) := by decide +kernel
theorem dX12_pieceOf_21 : decode cX12_pieceOf 21 = .ok (.imul, 1) := by decide +kernel
theorem dX12_pieceOf_22 : decode cX12_pieceOf 22 = .ok (.iload_n 2, 1) := by decide +kernel
theorem dX12_pieceOf_23 : decode cX12_pieceOf 23 = .ok (.iadd, 1) := by decide +kernel
theorem dX12_pieceOf_24 : decode cX12_pieceOf 24 = .ok (.iaload, 1) := by decide +kernel
theorem dX12_pieceOf_25 : decode cX12_pieceOf 25 = .ok (.iaload, 1) := by decide +kernel
theorem dX12_pieceOf_26 : decode cX12_pieceOf 26 = .ok (.goto 4, 3) := by decide +kernel
theorem dX12_pieceOf_29 : decode cX12_pieceOf 29 = .ok (.iconst 0, 1) := by decide +kernel
theorem dX12_pieceOf_30 : decode cX12_pieceOf 30 = .ok (.ireturn, 1) := by decide +kernel
theorem dX12_part_0 : decode cX12_part 0 = .ok (.aload_n 0, 1) := by decide +kernel
theorem dX12_part_1 : decode cX12_part 1 = .ok (.iload_n 1, 1) := by decide +kernel
theorem dX12_part_2 : decode cX12_part 2 = .ok (.iload_n 2, 1) := by decide +kernel
theorem dX12_part_3 : decode cX12_part 3 = .ok (.invokevirtual 269, 3) := by decide +kernel
theorem dX12_part_6 : decode cX12_part 6 = .ok (.ifCond .eq 16, 3) := by decide +kernel
theorem dX12_part_9 : decode cX12_part 9 = .ok (.iload_n 3, 1) := by decide +kernel
theorem dX12_part_10 : decode cX12_part 10 = .ok (.iconst 0, 1) := by decide +kernel
theorem dX12_part_11 : decode cX12_part 11 = .ok (.iconst 5, 1) := by decide +kernel
theorem dX12_part_12 : decode cX12_part 12 = .ok (.invokestatic 124, 3) := by decide +kernel
theorem dX12_part_15 : decode cX12_part 15 = .ok (.ifCond .eq 7, 3) := by decide +kernel
theorem dX12_part_18 : decode cX12_part 18 = .ok (.iconst 1, 1) := by decide +kernel
theorem dX12_part_19 : decode cX12_part 19 = .ok (.goto 4, 3) := by decide +kernel
theorem dX12_part_22 : decode cX12_part 22 = .ok (.iconst 0, 1) := by decide +kernel
theorem dX12_part_23 : decode cX12_part 23 = .ok (.istore 4, 2) := by decide +kernel
theorem dX12_part_25 : decode cX12_part 25 = .ok (.aload_n 0, 1) := by decide +kernel
theorem dX12_part_26 : decode cX12_part 26 = .ok (.iload 4, 2) := by decide +kernel
theorem dX12_part_28 : decode cX12_part 28 = .ok (.ifCond .eq 7, 3) := by decide +kernel
theorem dX12_part_31 : decode cX12_part 31 = .ok (.iconst 0, 1) := by decide +kernel
theorem dX12_part_32 : decode cX12_part 32 = .ok (.goto 4, 3) := by decide +kernel
theorem dX12_part_35 : decode cX12_part 35 = .ok (.iconst 1, 1) := by decide +kernel
theorem dX12_part_36 : decode cX12_part 36 = .ok (.invokevirtual 143, 3) := by decide +kernel
theorem dX12_part_39 : decode cX12_part 39 = .ok (.ifCond .eq 28, 3) := by decide +kernel
theorem dX12_part_42 : decode cX12_part 42 = .ok (.aload_n 0, 1) := by decide +kernel
theorem dX12_part_43 : decode cX12_part 43 = .ok (.getfield 88, 3) := by decide +kernel
theorem dX12_part_46 : decode cX12_part 46 = .ok (.bipush 6, 2) := by decide +kernel
theorem dX12_part_48 : decode cX12_part 48 = .ok (.aload_n 0, 1) := by decide +kernel
theorem dX12_part_49 : decode cX12_part 49 = .ok (.getfield 82, 3) := by decide +kernel
theorem dX12_part_52 : decode cX12_part 52 = .ok (.sipush 160, 3) := by decide +kernel
theorem dX12_part_55 : decode cX12_part 55 = .ok (.iload_n 1, 1) := by decide +kernel
theorem dX12_part_56 : decode cX12_part 56 = .ok (.imul, 1) := by decide +kernel
theorem dX12_part_57 : decode cX12_part 57 = .ok (.iload_n 2, 1) := by decide +kernel
theorem dX12_part_58 : decode cX12_part 58 = .ok (.iadd, 1) := by decide +kernel
theorem dX12_part_59 : decode cX12_part 59 = .ok (.iaload, 1) := by decide +kernel
theorem dX12_part_60 : decode cX12_part 60 = .ok (.imul, 1) := by decide +kernel
theorem dX12_part_61 : decode cX12_part 61 = .ok (.iload_n 3, 1) := by decide +kernel
theorem dX12_part_62 : decode cX12_part 62 = .ok (.iadd, 1) := by decide +kernel
theorem dX12_part_63 : decode cX12_part 63 = .ok (.iaload, 1) := by decide +kernel
theorem dX12_part_64 : decode cX12_part 64 = .ok (.goto 4, 3) := by decide +kernel
theorem dX12_part_67 : decode cX12_part 67 = .ok (.iconst 0, 1) := by decide +kernel
theorem dX12_part_68 : decode cX12_part 68 = .ok (.ireturn, 1) := by decide +kernel
theorem dX12_seal_0 : decode cX12_seal 0 = .ok (.aload_n 0, 1) := by decide +kernel
theorem dX12_seal_1 : decode cX12_seal 1 = .ok (.iload_n 1, 1) := by decide +kernel
theorem dX12_seal_2 : decode cX12_seal 2 = .ok (.iload_n 2, 1) := by decide +kernel
theorem dX12_seal_3 : decode cX12_seal 3 = .ok (.invokevirtual 290, 3) := by decide +kernel
theorem dX12_seal_6 : decode cX12_seal 6 = .ok (.ifCond .eq 23, 3) := by decide +kernel
theorem dX12_seal_9 : decode cX12_seal 9 = .ok (.aload_n 0, 1) := by decide +kernel
theorem dX12_seal_10 : decode cX12_seal 10 = .ok (.getfield 94, 3) := by decide +kernel
theorem dX12_seal_13 : decode cX12_seal 13 = .ok (.aload_n 0, 1) := by decide +kernel
theorem dX12_seal_14 : decode cX12_seal 14 = .ok (.getfield 82, 3) := by decide +kernel
theorem dX12_seal_17 : decode cX12_seal 17 = .ok (.sipush 160, 3) := by decide +kernel
theorem dX12_seal_20 : decode cX12_seal 20 = .ok (.iload_n 1, 1) := by decide +kernel
theorem dX12_seal_21 : decode cX12_seal 21 = .ok (.imul, 1) := by decide +kernel
theorem dX12_seal_22 : decode cX12_seal 22 = .ok (.iload_n 2, 1) := by decide +kernel
theorem dX12_seal_23 : decode cX12_seal 23 = .ok (.iadd, 1) := by decide +kernel
theorem dX12_seal_24 : decode cX12_seal 24 = .ok (.iaload, 1) := by decide +kernel
theorem dX12_seal_25 : decode cX12_seal 25 = .ok (.iaload, 1) := by decide +kernel
theorem dX12_seal_26 : decode cX12_seal 26 = .ok (.goto 4, 3) := by decide +kernel
theorem dX12_seal_29 : decode cX12_seal 29 = .ok (.iconst 0, 1) := by decide +kernel
theorem dX12_seal_30 : decode cX12_seal 30 = .ok (.ireturn, 1) := by decide +kernel
theorem dX12_broken_0 : decode cX12_broken 0 = .ok (.aload_n 0, 1) := by decide +kernel
theorem dX12_broken_1 : decode cX12_broken 1 = .ok (.iload_n 1, 1) := by decide +kernel
theorem dX12_broken_2 : decode cX12_broken 2 = .ok (.invokestatic 131, 3) := by decide +kernel
theorem dX12_broken_5 : decode cX12_broken 5 = .ok (.ifCond .eq 7, 3) := by decide +kernel
theorem dX12_broken_8 : decode cX12_broken 8 = .ok (.iconst 0, 1) := by decide +kernel
theorem dX12_broken_9 : decode cX12_broken 9 = .ok (.goto 4, 3) := by decide +kernel
theorem dX12_broken_12 : decode cX12_broken 12 = .ok (.iconst 1, 1) := by decide +kernel
theorem dX12_broken_13 : decode cX12_broken 13 = .ok (.invokevirtual 143, 3) := by decide +kernel
theorem dX12_broken_16 : decode cX12_broken 16 = .ok (.ifCond .ne 5, 3) := by decide +kernel
theorem dX12_broken_19 : decode cX12_broken 19 = .ok (.iconst 0, 1) := by decide +kernel
theorem dX12_broken_20 : decode cX12_broken 20 = .ok (.ireturn, 1) := by decide +kernel
theorem dX12_broken_21 : decode cX12_broken 21 = .ok (.iconst 0, 1) := by decide +kernel
theorem dX12_broken_22 : decode cX12_broken 22 = .ok (.istore_n 2, 1) := by decide +kernel
theorem dX12_broken_23 : decode cX12_broken 23 = .ok (.iload_n 2, 1) := by decide +kernel
theorem dX12_broken_24 : decode cX12_broken 24 = .ok (.aload_n 0, 1) := by decide +kernel
theorem dX12_broken_25 : decode cX12_broken 25 = .ok (.getfield 79, 3) := by decide +kernel
theorem dX12_broken_28 : decode cX12_broken 28 = .ok (.iload_n 1, 1) := by decide +kernel
theorem dX12_broken_29 : decode cX12_broken 29 = .ok (.iaload, 1) := by decide +kernel
theorem dX12_broken_30 : decode cX12_broken 30 = .ok (.if_icmp .ge 37, 3) := by decide +kernel
theorem dX12_broken_33 : decode cX12_broken 33 = .ok (.aload_n 0, 1) := by decide +kernel
theorem dX12_broken_34 : decode cX12_broken 34 = .ok (.iload_n 1, 1) := by decide +kernel
theorem dX12_broken_35 : decode cX12_broken 35 = .ok (.iload_n 2, 1) := by decide +kernel
theorem dX12_broken_36 : decode cX12_broken 36 = .ok (.invokevirtual 263, 3) := by decide +kernel
theorem dX12_broken_39 : decode cX12_broken 39 = .ok (.aload_n 0, 1) := by decide +kernel
theorem dX12_broken_40 : decode cX12_broken 40 = .ok (.getfield 94, 3) := by decide +kernel
theorem dX12_broken_43 : decode cX12_broken 43 = .ok (.aload_n 0, 1) := by decide +kernel
theorem dX12_broken_44 : decode cX12_broken 44 = .ok (.getfield 82, 3) := by decide +kernel
theorem dX12_broken_47 : decode cX12_broken 47 = .ok (.sipush 160, 3) := by decide +kernel
theorem dX12_broken_50 : decode cX12_broken 50 = .ok (.iload_n 1, 1) := by decide +kernel
theorem dX12_broken_51 : decode cX12_broken 51 = .ok (.imul, 1) := by decide +kernel
theorem dX12_broken_52 : decode cX12_broken 52 = .ok (.iload_n 2, 1) := by decide +kernel
theorem dX12_broken_53 : decode cX12_broken 53 = .ok (.iadd, 1) := by decide +kernel
theorem dX12_broken_54 : decode cX12_broken 54 = .ok (.iaload, 1) := by decide +kernel
theorem dX12_broken_55 : decode cX12_broken 55 = .ok (.iaload, 1) := by decide +kernel
theorem dX12_broken_56 : decode cX12_broken 56 = .ok (.if_icmp .eq 5, 3) := by decide +kernel
theorem dX12_broken_59 : decode cX12_broken 59 = .ok (.iload_n 2, 1) := by decide +kernel
theorem dX12_broken_60 : decode cX12_broken 60 = .ok (.ireturn, 1) := by decide +kernel
theorem dX12_broken_61 : decode cX12_broken 61 = .ok (.iinc 2 1, 3) := by decide +kernel
theorem dX12_broken_64 : decode cX12_broken 64 = .ok (.goto (-41), 3) := by decide +kernel
theorem dX12_broken_67 : decode cX12_broken 67 = .ok (.iconst (-1), 1) := by decide +kernel
theorem dX12_broken_68 : decode cX12_broken 68 = .ok (.ireturn, 1) := by decide +kernel
theorem dX12_size_0 : decode cX12_size 0 = .ok (.aload_n 0, 1) := by decide +kernel
theorem dX12_size_1 : decode cX12_size 1 = .ok (.aload_n 0, 1) := by decide +kernel
theorem dX12_size_2 : decode cX12_size 2 = .ok (.iload_n 1, 1) := by decide +kernel
theorem dX12_size_3 : decode cX12_size 3 = .ok (.invokevirtual 281, 3) := by decide +kernel
theorem dX12_size_6 : decode cX12_size 6 = .ok (.ifCond .eq 7, 3) := by decide +kernel
theorem dX12_size_9 : decode cX12_size 9 = .ok (.iconst 0, 1) := by decide +kernel
theorem dX12_size_10 : decode cX12_size 10 = .ok (.goto 4, 3) := by decide +kernel
theorem dX12_size_13 : decode cX12_size 13 = .ok (.iconst 1, 1) := by decide +kernel
theorem dX12_size_14 : decode cX12_size 14 = .ok (.invokevirtual 143, 3) := by decide +kernel
theorem dX12_size_17 : decode cX12_size 17 = .ok (.ifCond .eq 12, 3) := by decide +kernel
theorem dX12_size_20 : decode cX12_size 20 = .ok (.aload_n 0, 1) := by decide +kernel
theorem dX12_size_21 : decode cX12_size 21 = .ok (.getfield 106, 3) := by decide +kernel
theorem dX12_size_24 : decode cX12_size 24 = .ok (.iload_n 1, 1) := by decide +kernel
theorem dX12_size_25 : decode cX12_size 25 = .ok (.iaload, 1) := by decide +kernel
theorem dX12_size_26 : decode cX12_size 26 = .ok (.goto 4, 3) := by decide +kernel
theorem dX12_size_29 : decode cX12_size 29 = .ok (.iconst 0, 1) := by decide +kernel
theorem dX12_size_30 : decode cX12_size 30 = .ok (.ireturn, 1) := by decide +kernel
theorem dX12_copied_0 : decode cX12_copied 0 = .ok (.aload_n 0, 1) := by decide +kernel
theorem dX12_copied_1 : decode cX12_copied 1 = .ok (.aload_n 0, 1) := by decide +kernel
theorem dX12_copied_2 : decode cX12_copied 2 = .ok (.iload_n 1, 1) := by decide +kernel
theorem dX12_copied_3 : decode cX12_copied 3 = .ok (.iload_n 2, 1) := by decide +kernel
theorem dX12_copied_4 : decode cX12_copied 4 = .ok (.iload_n 3, 1) := by decide +kernel
theorem dX12_copied_5 : decode cX12_copied 5 = .ok (.invokevirtual 284, 3) := by decide +kernel
theorem dX12_copied_8 : decode cX12_copied 8 = .ok (.ifCond .eq 7, 3) := by decide +kernel
theorem dX12_copied_11 : decode cX12_copied 11 = .ok (.iconst 0, 1) := by decide +kernel
theorem dX12_copied_12 : decode cX12_copied 12 = .ok (.goto 4, 3) := by decide +kernel
theorem dX12_copied_15 : decode cX12_copied 15 = .ok (.iconst 1, 1) := by decide +kernel
theorem dX12_copied_16 : decode cX12_copied 16 = .ok (.invokevirtual 143, 3) := by decide +kernel
theorem dX12_copied_19 : decode cX12_copied 19 = .ok (.ifCond .ne 5, 3) := by decide +kernel
theorem dX12_copied_22 : decode cX12_copied 22 = .ok (.iconst 0, 1) := by decide +kernel
theorem dX12_copied_23 : decode cX12_copied 23 = .ok (.ireturn, 1) := by decide +kernel
theorem dX12_copied_24 : decode cX12_copied 24 = .ok (.aload_n 0, 1) := by decide +kernel
theorem dX12_copied_25 : decode cX12_copied 25 = .ok (.iload_n 1, 1) := by decide +kernel
theorem dX12_copied_26 : decode cX12_copied 26 = .ok (.iload_n 3, 1) := by decide +kernel
theorem dX12_copied_27 : decode cX12_copied 27 = .ok (.invokevirtual 272, 3) := by decide +kernel
theorem dX12_copied_30 : decode cX12_copied 30 = .ok (.ifCond .eq 7, 3) := by decide +kernel
theorem dX12_copied_33 : decode cX12_copied 33 = .ok (.iconst (-1), 1) := by decide +kernel
theorem dX12_copied_34 : decode cX12_copied 34 = .ok (.goto 20, 3) := by decide +kernel
theorem dX12_copied_37 : decode cX12_copied 37 = .ok (.aload_n 0, 1) := by decide +kernel
theorem dX12_copied_38 : decode cX12_copied 38 = .ok (.getfield 115, 3) := by decide +kernel
theorem dX12_copied_41 : decode cX12_copied 41 = .ok (.bipush 6, 2) := by decide +kernel
theorem dX12_copied_43 : decode cX12_copied 43 = .ok (.sipush 160, 3) := by decide +kernel
theorem dX12_copied_46 : decode cX12_copied 46 = .ok (.iload_n 1, 1) := by decide +kernel
theorem dX12_copied_47 : decode cX12_copied 47 = .ok (.imul, 1) := by decide +kernel
theorem dX12_copied_48 : decode cX12_copied 48 = .ok (.iload_n 2, 1) := by decide +kernel
theorem dX12_copied_49 : decode cX12_copied 49 = .ok (.iadd, 1) := by decide +kernel
theorem dX12_copied_50 : decode cX12_copied 50 = .ok (.imul, 1) := by decide +kernel
theorem dX12_copied_51 : decode cX12_copied 51 = .ok (.iload_n 3, 1) := by decide +kernel
theorem dX12_copied_52 : decode cX12_copied 52 = .ok (.iadd, 1) := by decide +kernel
theorem dX12_copied_53 : decode cX12_copied 53 = .ok (.iaload, 1) := by decide +kernel
theorem dX12_copied_54 : decode cX12_copied 54 = .ok (.ireturn, 1) := by decide +kernel
theorem dX12_isBroken_0 : decode cX12_isBroken 0 = .ok (.iconst 1, 1) := by decide +kernel
theorem dX12_isBroken_1 : decode cX12_isBroken 1 = .ok (.istore_n 3, 1) := by decide +kernel
theorem dX12_isBroken_2 : decode cX12_isBroken 2 = .ok (.iconst 0, 1) := by decide +kernel
theorem dX12_isBroken_3 : decode cX12_isBroken 3 = .ok (.istore 4, 2) := by decide +kernel
theorem dX12_isBroken_5 : decode cX12_isBroken 5 = .ok (.iload 4, 2) := by decide +kernel
theorem dX12_isBroken_7 : decode cX12_isBroken 7 = .ok (.bipush 6, 2) := by decide +kernel
theorem dX12_isBroken_9 : decode cX12_isBroken 9 = .ok (.if_icmp .ge 70, 3) := by decide +kernel
theorem dX12_isBroken_12 : decode cX12_isBroken 12 = .ok (.aload_n 0, 1) := by decide +kernel
theorem dX12_isBroken_13 : decode cX12_isBroken 13 = .ok (.getfield 115, 3) := by decide +kernel
theorem dX12_isBroken_16 : decode cX12_isBroken 16 = .ok (.bipush 6, 2) := by decide +kernel
theorem dX12_isBroken_18 : decode cX12_isBroken 18 = .ok (.sipush 160, 3) := by decide +kernel
theorem dX12_isBroken_21 : decode cX12_isBroken 21 = .ok (.iload_n 1, 1) := by decide +kernel
theorem dX12_isBroken_22 : decode cX12_isBroken 22 = .ok (.imul, 1) := by decide +kernel
theorem dX12_isBroken_23 : decode cX12_isBroken 23 = .ok (.iload_n 2, 1) := by decide +kernel
theorem dX12_isBroken_24 : decode cX12_isBroken 24 = .ok (.iadd, 1) := by decide +kernel
theorem dX12_isBroken_25 : decode cX12_isBroken 25 = .ok (.imul, 1) := by decide +kernel
theorem dX12_isBroken_26 : decode cX12_isBroken 26 = .ok (.iload 4, 2) := by decide +kernel
theorem dX12_isBroken_28 : decode cX12_isBroken 28 = .ok (.iadd, 1) := by decide +kernel
theorem dX12_isBroken_29 : decode cX12_isBroken 29 = .ok (.iaload, 1) := by decide +kernel
theorem dX12_isBroken_30 : decode cX12_isBroken 30 = .ok (.istore 5, 2) := by decide +kernel
theorem dX12_isBroken_32 : decode cX12_isBroken 32 = .ok (.iload_n 3, 1) := by decide +kernel
theorem dX12_isBroken_33 : decode cX12_isBroken 33 = .ok (.aload_n 0, 1) := by decide +kernel
theorem dX12_isBroken_34 : decode cX12_isBroken 34 = .ok (.iload_n 1, 1) := by decide +kernel
theorem dX12_isBroken_35 : decode cX12_isBroken 35 = .ok (.iload 4, 2) := by decide +kernel
theorem dX12_isBroken_37 : decode cX12_isBroken 37 = .ok (.invokevirtual 272, 3) := by decide +kernel
theorem dX12_isBroken_40 : decode cX12_isBroken 40 = .ok (.ifCond .eq 8, 3) := by decide +kernel
theorem dX12_isBroken_43 : decode cX12_isBroken 43 = .ok (.iload 5, 2) := by decide +kernel
theorem dX12_isBroken_45 : decode cX12_isBroken 45 = .ok (.goto 24, 3) := by decide +kernel
theorem dX12_isBroken_48 : decode cX12_isBroken 48 = .ok (.aload_n 0, 1) := by decide +kernel
theorem dX12_isBroken_49 : decode cX12_isBroken 49 = .ok (.getfield 100, 3) := by decide +kernel
theorem dX12_isBroken_52 : decode cX12_isBroken 52 = .ok (.iload_n 1, 1) := by decide +kernel
theorem dX12_isBroken_53 : decode cX12_isBroken 53 = .ok (.iaload, 1) := by decide +kernel
theorem dX12_isBroken_54 : decode cX12_isBroken 54 = .ok (.aload_n 0, 1) := by decide +kernel
theorem dX12_isBroken_55 : decode cX12_isBroken 55 = .ok (.getfield 103, 3) := by decide +kernel
theorem dX12_isBroken_58 : decode cX12_isBroken 58 = .ok (.iload_n 1, 1) := by decide +kernel
theorem dX12_isBroken_59 : decode cX12_isBroken 59 = .ok (.iaload, 1) := by decide +kernel
theorem dX12_isBroken_60 : decode cX12_isBroken 60 = .ok (.iload_n 2, 1) := by decide +kernel
theorem dX12_isBroken_61 : decode cX12_isBroken 61 = .ok (.iadd, 1) := by decide +kernel
theorem dX12_isBroken_62 : decode cX12_isBroken 62 = .ok (.iload 4, 2) := by decide +kernel
theorem dX12_isBroken_64 : decode cX12_isBroken 64 = .ok (.iload 5, 2) := by decide +kernel
theorem dX12_isBroken_66 : decode cX12_isBroken 66 = .ok (.invokestatic 245, 3) := by decide +kernel
theorem dX12_isBroken_69 : decode cX12_isBroken 69 = .ok (.invokestatic 242, 3) := by decide +kernel
theorem dX12_isBroken_72 : decode cX12_isBroken 72 = .ok (.istore_n 3, 1) := by decide +kernel
theorem dX12_isBroken_73 : decode cX12_isBroken 73 = .ok (.iinc 4 1, 3) := by decide +kernel
theorem dX12_isBroken_76 : decode cX12_isBroken 76 = .ok (.goto (-71), 3) := by decide +kernel
theorem dX12_isBroken_79 : decode cX12_isBroken 79 = .ok (.iload_n 2, 1) := by decide +kernel
theorem dX12_isBroken_80 : decode cX12_isBroken 80 = .ok (.ifCond .ne 12, 3) := by decide +kernel
theorem dX12_isBroken_83 : decode cX12_isBroken 83 = .ok (.aload_n 0, 1) := by decide +kernel
theorem dX12_isBroken_84 : decode cX12_isBroken 84 = .ok (.getfield 112, 3) := by decide +kernel
theorem dX12_isBroken_87 : decode cX12_isBroken 87 = .ok (.iload_n 1, 1) := by decide +kernel
theorem dX12_isBroken_88 : decode cX12_isBroken 88 = .ok (.iaload, 1) := by decide +kernel
theorem dX12_isBroken_89 : decode cX12_isBroken 89 = .ok (.goto 17, 3) := by decide +kernel
theorem dX12_isBroken_92 : decode cX12_isBroken 92 = .ok (.aload_n 0, 1) := by decide +kernel
theorem dX12_isBroken_93 : decode cX12_isBroken 93 = .ok (.getfield 118, 3) := by decide +kernel
theorem dX12_isBroken_96 : decode cX12_isBroken 96 = .ok (.sipush 160, 3) := by decide +kernel
theorem dX12_isBroken_99 : decode cX12_isBroken 99 = .ok (.iload_n 1, 1) := by decide +kernel
theorem dX12_isBroken_100 : decode cX12_isBroken 100 = .ok (.imul, 1) := by decide +kernel
theorem dX12_isBroken_101 : decode cX12_isBroken 101 = .ok (.iload_n 2, 1) := by decide +kernel
theorem dX12_isBroken_102 : decode cX12_isBroken 102 = .ok (.iadd, 1) := by decide +kernel
theorem dX12_isBroken_103 : decode cX12_isBroken 103 = .ok (.iconst 1, 1) := by decide +kernel
theorem dX12_isBroken_104 : decode cX12_isBroken 104 = .ok (.isub, 1) := by decide +kernel
theorem dX12_isBroken_105 : decode cX12_isBroken 105 = .ok (.iaload, 1) := by decide +kernel
theorem dX12_isBroken_106 : decode cX12_isBroken 106 = .ok (.istore 4, 2) := by decide +kernel
theorem dX12_isBroken_108 : decode cX12_isBroken 108 = .ok (.iload 4, 2) := by decide +kernel
theorem dX12_isBroken_110 : decode cX12_isBroken 110 = .ok (.iload_n 3, 1) := by decide +kernel
theorem dX12_isBroken_111 : decode cX12_isBroken 111 = .ok (.invokestatic 242, 3) := by decide +kernel
theorem dX12_isBroken_114 : decode cX12_isBroken 114 = .ok (.aload_n 0, 1) := by decide +kernel
theorem dX12_isBroken_115 : decode cX12_isBroken 115 = .ok (.getfield 118, 3) := by decide +kernel
theorem dX12_isBroken_118 : decode cX12_isBroken 118 = .ok (.sipush 160, 3) := by decide +kernel
theorem dX12_isBroken_121 : decode cX12_isBroken 121 = .ok (.iload_n 1, 1) := by decide +kernel
theorem dX12_isBroken_122 : decode cX12_isBroken 122 = .ok (.imul, 1) := by decide +kernel
theorem dX12_isBroken_123 : decode cX12_isBroken 123 = .ok (.iload_n 2, 1) := by decide +kernel
theorem dX12_isBroken_124 : decode cX12_isBroken 124 = .ok (.iadd, 1) := by decide +kernel
theorem dX12_isBroken_125 : decode cX12_isBroken 125 = .ok (.iaload, 1) := by decide +kernel
theorem dX12_isBroken_126 : decode cX12_isBroken 126 = .ok (.if_icmp .eq 7, 3) := by decide +kernel
theorem dX12_isBroken_129 : decode cX12_isBroken 129 = .ok (.iconst 1, 1) := by decide +kernel
theorem dX12_isBroken_130 : decode cX12_isBroken 130 = .ok (.goto 4, 3) := by decide +kernel
theorem dX12_isBroken_133 : decode cX12_isBroken 133 = .ok (.iconst 0, 1) := by decide +kernel
theorem dX12_isBroken_134 : decode cX12_isBroken 134 = .ok (.ireturn, 1) := by decide +kernel
theorem dX12_brokenCopy_0 : decode cX12_brokenCopy 0 = .ok (.aload_n 0, 1) := by decide +kernel
theorem dX12_brokenCopy_1 : decode cX12_brokenCopy 1 = .ok (.aload_n 0, 1) := by decide +kernel
theorem dX12_brokenCopy_2 : decode cX12_brokenCopy 2 = .ok (.iload_n 1, 1) := by decide +kernel
theorem dX12_brokenCopy_3 : decode cX12_brokenCopy 3 = .ok (.invokevirtual 281, 3) := by decide +kernel
theorem dX12_brokenCopy_6 : decode cX12_brokenCopy 6 = .ok (.ifCond .eq 7, 3) := by decide +kernel
theorem dX12_brokenCopy_9 : decode cX12_brokenCopy 9 = .ok (.iconst 0, 1) := by decide +kernel
theorem dX12_brokenCopy_10 : decode cX12_brokenCopy 10 = .ok (.goto 4, 3) := by decide +kernel
theorem dX12_brokenCopy_13 : decode cX12_brokenCopy 13 = .ok (.iconst 1, 1) := by decide +kernel
theorem dX12_brokenCopy_14 : decode cX12_brokenCopy 14 = .ok (.invokevirtual 143, 3) := by decide +kernel
theorem dX12_brokenCopy_17 : decode cX12_brokenCopy 17 = .ok (.ifCond .ne 5, 3) := by decide +kernel
theorem dX12_brokenCopy_20 : decode cX12_brokenCopy 20 = .ok (.iconst 0, 1) := by decide +kernel
theorem dX12_brokenCopy_21 : decode cX12_brokenCopy 21 = .ok (.ireturn, 1) := by decide +kernel
theorem dX12_brokenCopy_22 : decode cX12_brokenCopy 22 = .ok (.iconst 0, 1) := by decide +kernel
theorem dX12_brokenCopy_23 : decode cX12_brokenCopy 23 = .ok (.istore_n 2, 1) := by decide +kernel
theorem dX12_brokenCopy_24 : decode cX12_brokenCopy 24 = .ok (.iload_n 2, 1) := by decide +kernel
theorem dX12_brokenCopy_25 : decode cX12_brokenCopy 25 = .ok (.aload_n 0, 1) := by decide +kernel
theorem dX12_brokenCopy_26 : decode cX12_brokenCopy 26 = .ok (.getfield 106, 3) := by decide +kernel
theorem dX12_brokenCopy_29 : decode cX12_brokenCopy 29 = .ok (.iload_n 1, 1) := by decide +kernel
theorem dX12_brokenCopy_30 : decode cX12_brokenCopy 30 = .ok (.iaload, 1) := by decide +kernel
theorem dX12_brokenCopy_31 : decode cX12_brokenCopy 31 = .ok (.if_icmp .ge 20, 3) := by decide +kernel
theorem dX12_brokenCopy_34 : decode cX12_brokenCopy 34 = .ok (.aload_n 0, 1) := by decide +kernel
theorem dX12_brokenCopy_35 : decode cX12_brokenCopy 35 = .ok (.iload_n 1, 1) := by decide +kernel
theorem dX12_brokenCopy_36 : decode cX12_brokenCopy 36 = .ok (.iload_n 2, 1) := by decide +kernel
theorem dX12_brokenCopy_37 : decode cX12_brokenCopy 37 = .ok (.invokevirtual 293, 3) := by decide +kernel
theorem dX12_brokenCopy_40 : decode cX12_brokenCopy 40 = .ok (.ifCond .eq 5, 3) := by decide +kernel
theorem dX12_brokenCopy_43 : decode cX12_brokenCopy 43 = .ok (.iload_n 2, 1) := by decide +kernel
theorem dX12_brokenCopy_44 : decode cX12_brokenCopy 44 = .ok (.ireturn, 1) := by decide +kernel
theorem dX12_brokenCopy_45 : decode cX12_brokenCopy 45 = .ok (.iinc 2 1, 3) := by decide +kernel
theorem dX12_brokenCopy_48 : decode cX12_brokenCopy 48 = .ok (.goto (-24), 3) := by decide +kernel
theorem dX12_brokenCopy_51 : decode cX12_brokenCopy 51 = .ok (.iconst (-1), 1) := by decide +kernel
theorem dX12_brokenCopy_52 : decode cX12_brokenCopy 52 = .ok (.ireturn, 1) := by decide +kernel
theorem dX12_isTrue_0 : decode cX12_isTrue 0 = .ok (.aload_n 0, 1) := by decide +kernel
theorem dX12_isTrue_1 : decode cX12_isTrue 1 = .ok (.aload_n 0, 1) := by decide +kernel
theorem dX12_isTrue_2 : decode cX12_isTrue 2 = .ok (.iload_n 1, 1) := by decide +kernel
theorem dX12_isTrue_3 : decode cX12_isTrue 3 = .ok (.invokevirtual 281, 3) := by decide +kernel
theorem dX12_isTrue_6 : decode cX12_isTrue 6 = .ok (.ifCond .eq 7, 3) := by decide +kernel
theorem dX12_isTrue_9 : decode cX12_isTrue 9 = .ok (.iconst 0, 1) := by decide +kernel
theorem dX12_isTrue_10 : decode cX12_isTrue 10 = .ok (.goto 4, 3) := by decide +kernel
theorem dX12_isTrue_13 : decode cX12_isTrue 13 = .ok (.iconst 1, 1) := by decide +kernel
theorem dX12_isTrue_14 : decode cX12_isTrue 14 = .ok (.invokevirtual 143, 3) := by decide +kernel
theorem dX12_isTrue_17 : decode cX12_isTrue 17 = .ok (.istore_n 2, 1) := by decide +kernel
theorem dX12_isTrue_18 : decode cX12_isTrue 18 = .ok (.iconst 0, 1) := by decide +kernel
theorem dX12_isTrue_19 : decode cX12_isTrue 19 = .ok (.istore_n 3, 1) := by decide +kernel
theorem dX12_isTrue_20 : decode cX12_isTrue 20 = .ok (.iload_n 2, 1) := by decide +kernel
theorem dX12_isTrue_21 : decode cX12_isTrue 21 = .ok (.ifCond .eq 136, 3) := by decide +kernel
theorem dX12_isTrue_24 : decode cX12_isTrue 24 = .ok (.iload_n 3, 1) := by decide +kernel
theorem dX12_isTrue_25 : decode cX12_isTrue 25 = .ok (.bipush 6, 2) := by decide +kernel
theorem dX12_isTrue_27 : decode cX12_isTrue 27 = .ok (.aload_n 0, 1) := by decide +kernel
theorem dX12_isTrue_28 : decode cX12_isTrue 28 = .ok (.getfield 106, 3) := by decide +kernel
theorem dX12_isTrue_31 : decode cX12_isTrue 31 = .ok (.iload_n 1, 1) := by decide +kernel
theorem dX12_isTrue_32 : decode cX12_isTrue 32 = .ok (.iaload, 1) := by decide +kernel
theorem dX12_isTrue_33 : decode cX12_isTrue 33 = .ok (.imul, 1) := by decide +kernel
theorem dX12_isTrue_34 : decode cX12_isTrue 34 = .ok (.if_icmp .ge 123, 3) := by decide +kernel
theorem dX12_isTrue_37 : decode cX12_isTrue 37 = .ok (.aload_n 0, 1) := by decide +kernel
theorem dX12_isTrue_38 : decode cX12_isTrue 38 = .ok (.getfield 82, 3) := by decide +kernel
theorem dX12_isTrue_41 : decode cX12_isTrue 41 = .ok (.sipush 160, 3) := by decide +kernel
theorem dX12_isTrue_44 : decode cX12_isTrue 44 = .ok (.aload_n 0, 1) := by decide +kernel
theorem dX12_isTrue_45 : decode cX12_isTrue 45 = .ok (.getfield 100, 3) := by decide +kernel
theorem dX12_isTrue_48 : decode cX12_isTrue 48 = .ok (.iload_n 1, 1) := by decide +kernel
theorem dX12_isTrue_49 : decode cX12_isTrue 49 = .ok (.iaload, 1) := by decide +kernel
theorem dX12_isTrue_50 : decode cX12_isTrue 50 = .ok (.imul, 1) := by decide +kernel
theorem dX12_isTrue_51 : decode cX12_isTrue 51 = .ok (.aload_n 0, 1) := by decide +kernel
theorem dX12_isTrue_52 : decode cX12_isTrue 52 = .ok (.getfield 103, 3) := by decide +kernel
theorem dX12_isTrue_55 : decode cX12_isTrue 55 = .ok (.iload_n 1, 1) := by decide +kernel
theorem dX12_isTrue_56 : decode cX12_isTrue 56 = .ok (.iaload, 1) := by decide +kernel
theorem dX12_isTrue_57 : decode cX12_isTrue 57 = .ok (.iadd, 1) := by decide +kernel
theorem dX12_isTrue_58 : decode cX12_isTrue 58 = .ok (.iload_n 3, 1) := by decide +kernel
theorem dX12_isTrue_59 : decode cX12_isTrue 59 = .ok (.bipush 6, 2) := by decide +kernel
theorem dX12_isTrue_61 : decode cX12_isTrue 61 = .ok (.idiv, 1) := by decide +kernel
theorem dX12_isTrue_62 : decode cX12_isTrue 62 = .ok (.iadd, 1) := by decide +kernel
theorem dX12_isTrue_63 : decode cX12_isTrue 63 = .ok (.iaload, 1) := by decide +kernel
theorem dX12_isTrue_64 : decode cX12_isTrue 64 = .ok (.istore 4, 2) := by decide +kernel
theorem dX12_isTrue_66 : decode cX12_isTrue 66 = .ok (.aload_n 0, 1) := by decide +kernel
theorem dX12_isTrue_67 : decode cX12_isTrue 67 = .ok (.getfield 115, 3) := by decide +kernel
theorem dX12_isTrue_70 : decode cX12_isTrue 70 = .ok (.sipush 960, 3) := by decide +kernel
theorem dX12_isTrue_73 : decode cX12_isTrue 73 = .ok (.iload_n 1, 1) := by decide +kernel
theorem dX12_isTrue_74 : decode cX12_isTrue 74 = .ok (.imul, 1) := by decide +kernel
theorem dX12_isTrue_75 : decode cX12_isTrue 75 = .ok (.iload_n 3, 1) := by decide +kernel
theorem dX12_isTrue_76 : decode cX12_isTrue 76 = .ok (.iadd, 1) := by decide +kernel
theorem dX12_isTrue_77 : decode cX12_isTrue 77 = .ok (.iaload, 1) := by decide +kernel
theorem dX12_isTrue_78 : decode cX12_isTrue 78 = .ok (.aload_n 0, 1) := by decide +kernel
theorem dX12_isTrue_79 : decode cX12_isTrue 79 = .ok (.getfield 88, 3) := by decide +kernel
theorem dX12_isTrue_82 : decode cX12_isTrue 82 = .ok (.bipush 6, 2) := by decide +kernel
theorem dX12_isTrue_84 : decode cX12_isTrue 84 = .ok (.iload 4, 2) := by decide +kernel
theorem dX12_isTrue_86 : decode cX12_isTrue 86 = .ok (.imul, 1) := by decide +kernel
theorem dX12_isTrue_87 : decode cX12_isTrue 87 = .ok (.iload_n 3, 1) := by decide +kernel
theorem dX12_isTrue_88 : decode cX12_isTrue 88 = .ok (.bipush 6, 2) := by decide +kernel
theorem dX12_isTrue_90 : decode cX12_isTrue 90 = .ok (.irem, 1) := by decide +kernel
theorem dX12_isTrue_91 : decode cX12_isTrue 91 = .ok (.iadd, 1) := by decide +kernel
theorem dX12_isTrue_92 : decode cX12_isTrue 92 = .ok (.iaload, 1) := by decide +kernel
theorem dX12_isTrue_93 : decode cX12_isTrue 93 = .ok (.if_icmp .ne 7, 3) := by decide +kernel
theorem dX12_isTrue_96 : decode cX12_isTrue 96 = .ok (.iconst 1, 1) := by decide +kernel
theorem dX12_isTrue_97 : decode cX12_isTrue 97 = .ok (.goto 4, 3) := by decide +kernel
theorem dX12_isTrue_100 : decode cX12_isTrue 100 = .ok (.iconst 0, 1) := by decide +kernel
theorem dX12_isTrue_101 : decode cX12_isTrue 101 = .ok (.istore 5, 2) := by decide +kernel
theorem dX12_isTrue_103 : decode cX12_isTrue 103 = .ok (.aload_n 0, 1) := by decide +kernel
theorem dX12_isTrue_104 : decode cX12_isTrue 104 = .ok (.iload_n 1, 1) := by decide +kernel
theorem dX12_isTrue_105 : decode cX12_isTrue 105 = .ok (.iload_n 3, 1) := by decide +kernel
theorem dX12_isTrue_106 : decode cX12_isTrue 106 = .ok (.bipush 6, 2) := by decide +kernel
theorem dX12_isTrue_108 : decode cX12_isTrue 108 = .ok (.irem, 1) := by decide +kernel
theorem dX12_isTrue_109 : decode cX12_isTrue 109 = .ok (.invokevirtual 272, 3) := by decide +kernel
theorem dX12_isTrue_112 : decode cX12_isTrue 112 = .ok (.ifCond .ne 8, 3) := by decide +kernel
theorem dX12_isTrue_115 : decode cX12_isTrue 115 = .ok (.iload 5, 2) := by decide +kernel
theorem dX12_isTrue_117 : decode cX12_isTrue 117 = .ok (.ifCond .eq 32, 3) := by decide +kernel
theorem dX12_isTrue_120 : decode cX12_isTrue 120 = .ok (.aload_n 0, 1) := by decide +kernel
theorem dX12_isTrue_121 : decode cX12_isTrue 121 = .ok (.getfield 118, 3) := by decide +kernel
theorem dX12_isTrue_124 : decode cX12_isTrue 124 = .ok (.sipush 160, 3) := by decide +kernel
theorem dX12_isTrue_127 : decode cX12_isTrue 127 = .ok (.iload_n 1, 1) := by decide +kernel
theorem dX12_isTrue_128 : decode cX12_isTrue 128 = .ok (.imul, 1) := by decide +kernel
theorem dX12_isTrue_129 : decode cX12_isTrue 129 = .ok (.iload_n 3, 1) := by decide +kernel
theorem dX12_isTrue_130 : decode cX12_isTrue 130 = .ok (.bipush 6, 2) := by decide +kernel
theorem dX12_isTrue_132 : decode cX12_isTrue 132 = .ok (.idiv, 1) := by decide +kernel
theorem dX12_isTrue_133 : decode cX12_isTrue 133 = .ok (.iadd, 1) := by decide +kernel
theorem dX12_isTrue_134 : decode cX12_isTrue 134 = .ok (.iaload, 1) := by decide +kernel
theorem dX12_isTrue_135 : decode cX12_isTrue 135 = .ok (.aload_n 0, 1) := by decide +kernel
theorem dX12_isTrue_136 : decode cX12_isTrue 136 = .ok (.getfield 94, 3) := by decide +kernel
theorem dX12_isTrue_139 : decode cX12_isTrue 139 = .ok (.iload 4, 2) := by decide +kernel
theorem dX12_isTrue_141 : decode cX12_isTrue 141 = .ok (.iaload, 1) := by decide +kernel
theorem dX12_isTrue_142 : decode cX12_isTrue 142 = .ok (.if_icmp .ne 7, 3) := by decide +kernel
theorem dX12_isTrue_145 : decode cX12_isTrue 145 = .ok (.iconst 1, 1) := by decide +kernel
theorem dX12_isTrue_146 : decode cX12_isTrue 146 = .ok (.goto 4, 3) := by decide +kernel
theorem dX12_isTrue_149 : decode cX12_isTrue 149 = .ok (.iconst 0, 1) := by decide +kernel
theorem dX12_isTrue_150 : decode cX12_isTrue 150 = .ok (.istore_n 2, 1) := by decide +kernel
theorem dX12_isTrue_151 : decode cX12_isTrue 151 = .ok (.iinc 3 1, 3) := by decide +kernel
theorem dX12_isTrue_154 : decode cX12_isTrue 154 = .ok (.goto (-134), 3) := by decide +kernel
theorem dX12_isTrue_157 : decode cX12_isTrue 157 = .ok (.iload_n 2, 1) := by decide +kernel
theorem dX12_isTrue_158 : decode cX12_isTrue 158 = .ok (.ireturn, 1) := by decide +kernel
theorem dJ6_bitCount_0f7a4_0 : decode cJ6_bitCount_0f7a4 0 = .ok (.iload_n 0, 1) := by decide +kernel
theorem dJ6_bitCount_0f7a4_1 : decode cJ6_bitCount_0f7a4 1 = .ok (.iload_n 0, 1) := by decide +kernel
theorem dJ6_bitCount_0f7a4_2 : decode cJ6_bitCount_0f7a4 2 = .ok (.iconst 1, 1) := by decide +kernel
theorem dJ6_bitCount_0f7a4_3 : decode cJ6_bitCount_0f7a4 3 = .ok (.iushr, 1) := by decide +kernel
theorem dJ6_bitCount_0f7a4_4 : decode cJ6_bitCount_0f7a4 4 = .ok (.ldc_w 265, 3) := by decide +kernel
theorem dJ6_bitCount_0f7a4_7 : decode cJ6_bitCount_0f7a4 7 = .ok (.iand, 1) := by decide +kernel
theorem dJ6_bitCount_0f7a4_8 : decode cJ6_bitCount_0f7a4 8 = .ok (.isub, 1) := by decide +kernel
theorem dJ6_bitCount_0f7a4_9 : decode cJ6_bitCount_0f7a4 9 = .ok (.istore_n 0, 1) := by decide +kernel
theorem dJ6_bitCount_0f7a4_10 : decode cJ6_bitCount_0f7a4 10 = .ok (.iload_n 0, 1) := by decide +kernel
theorem dJ6_bitCount_0f7a4_11 : decode cJ6_bitCount_0f7a4 11 = .ok (.ldc_w 266, 3) := by decide +kernel
theorem dJ6_bitCount_0f7a4_14 : decode cJ6_bitCount_0f7a4 14 = .ok (.iand, 1) := by decide +kernel
theorem dJ6_bitCount_0f7a4_15 : decode cJ6_bitCount_0f7a4 15 = .ok (.iload_n 0, 1) := by decide +kernel
theorem dJ6_bitCount_0f7a4_16 : decode cJ6_bitCount_0f7a4 16 = .ok (.iconst 2, 1) := by decide +kernel
theorem dJ6_bitCount_0f7a4_17 : decode cJ6_bitCount_0f7a4 17 = .ok (.iushr, 1) := by decide +kernel
theorem dJ6_bitCount_0f7a4_18 : decode cJ6_bitCount_0f7a4 18 = .ok (.ldc_w 266, 3) := by decide +kernel
theorem dJ6_bitCount_0f7a4_21 : decode cJ6_bitCount_0f7a4 21 = .ok (.iand, 1) := by decide +kernel
theorem dJ6_bitCount_0f7a4_22 : decode cJ6_bitCount_0f7a4 22 = .ok (.iadd, 1) := by decide +kernel
theorem dJ6_bitCount_0f7a4_23 : decode cJ6_bitCount_0f7a4 23 = .ok (.istore_n 0, 1) := by decide +kernel
theorem dJ6_bitCount_0f7a4_24 : decode cJ6_bitCount_0f7a4 24 = .ok (.iload_n 0, 1) := by decide +kernel
theorem dJ6_bitCount_0f7a4_25 : decode cJ6_bitCount_0f7a4 25 = .ok (.iload_n 0, 1) := by decide +kernel
theorem dJ6_bitCount_0f7a4_26 : decode cJ6_bitCount_0f7a4 26 = .ok (.iconst 4, 1) := by decide +kernel
theorem dJ6_bitCount_0f7a4_27 : decode cJ6_bitCount_0f7a4 27 = .ok (.iushr, 1) := by decide +kernel
theorem dJ6_bitCount_0f7a4_28 : decode cJ6_bitCount_0f7a4 28 = .ok (.iadd, 1) := by decide +kernel
theorem dJ6_bitCount_0f7a4_29 : decode cJ6_bitCount_0f7a4 29 = .ok (.ldc_w 267, 3) := by decide +kernel
theorem dJ6_bitCount_0f7a4_32 : decode cJ6_bitCount_0f7a4 32 = .ok (.iand, 1) := by decide +kernel
theorem dJ6_bitCount_0f7a4_33 : decode cJ6_bitCount_0f7a4 33 = .ok (.istore_n 0, 1) := by decide +kernel
theorem dJ6_bitCount_0f7a4_34 : decode cJ6_bitCount_0f7a4 34 = .ok (.iload_n 0, 1) := by decide +kernel
theorem dJ6_bitCount_0f7a4_35 : decode cJ6_bitCount_0f7a4 35 = .ok (.iload_n 0, 1) := by decide +kernel
theorem dJ6_bitCount_0f7a4_36 : decode cJ6_bitCount_0f7a4 36 = .ok (.bipush 8, 2) := by decide +kernel
theorem dJ6_bitCount_0f7a4_38 : decode cJ6_bitCount_0f7a4 38 = .ok (.iushr, 1) := by decide +kernel
theorem dJ6_bitCount_0f7a4_39 : decode cJ6_bitCount_0f7a4 39 = .ok (.iadd, 1) := by decide +kernel
theorem dJ6_bitCount_0f7a4_40 : decode cJ6_bitCount_0f7a4 40 = .ok (.istore_n 0, 1) := by decide +kernel
theorem dJ6_bitCount_0f7a4_41 : decode cJ6_bitCount_0f7a4 41 = .ok (.iload_n 0, 1) := by decide +kernel
theorem dJ6_bitCount_0f7a4_42 : decode cJ6_bitCount_0f7a4 42 = .ok (.iload_n 0, 1) := by decide +kernel
theorem dJ6_bitCount_0f7a4_43 : decode cJ6_bitCount_0f7a4 43 = .ok (.bipush 16, 2) := by decide +kernel
theorem dJ6_bitCount_0f7a4_45 : decode cJ6_bitCount_0f7a4 45 = .ok (.iushr, 1) := by decide +kernel
theorem dJ6_bitCount_0f7a4_46 : decode cJ6_bitCount_0f7a4 46 = .ok (.iadd, 1) := by decide +kernel
theorem dJ6_bitCount_0f7a4_47 : decode cJ6_bitCount_0f7a4 47 = .ok (.istore_n 0, 1) := by decide +kernel
theorem dJ6_bitCount_0f7a4_48 : decode cJ6_bitCount_0f7a4 48 = .ok (.iload_n 0, 1) := by decide +kernel
theorem dJ6_bitCount_0f7a4_49 : decode cJ6_bitCount_0f7a4 49 = .ok (.bipush 63, 2) := by decide +kernel
theorem dJ6_bitCount_0f7a4_51 : decode cJ6_bitCount_0f7a4 51 = .ok (.iand, 1) := by decide +kernel
theorem dJ6_bitCount_0f7a4_52 : decode cJ6_bitCount_0f7a4 52 = .ok (.ireturn, 1) := by decide +kernel
theorem dJxa1e45_init_da8c8_0 : decode cJxa1e45_init_da8c8 0 = .ok (.aload_n 0, 1) := by decide +kernel
theorem dJxa1e45_init_da8c8_1 : decode cJxa1e45_init_da8c8 1 = .ok (.invokespecial 1, 3) := by decide +kernel
theorem dJxa1e45_init_da8c8_4 : decode cJxa1e45_init_da8c8 4 = .ok (.return_, 1) := by decide +kernel
theorem dJxc12de_init_da8c8_0 : decode cJxc12de_init_da8c8 0 = .ok (.aload_n 0, 1) := by decide +kernel
theorem dJxc12de_init_da8c8_1 : decode cJxc12de_init_da8c8 1 = .ok (.invokespecial 1, 3) := by decide +kernel
theorem dJxc12de_init_da8c8_4 : decode cJxc12de_init_da8c8 4 = .ok (.aload_n 0, 1) := by decide +kernel
theorem dJxc12de_init_da8c8_5 : decode cJxc12de_init_da8c8 5 = .ok (.iconst 0, 1) := by decide +kernel
theorem dJxc12de_init_da8c8_6 : decode cJxc12de_init_da8c8 6 = .ok (.putfield 7, 3) := by decide +kernel
theorem dJxc12de_init_da8c8_9 : decode cJxc12de_init_da8c8 9 = .ok (.return_, 1) := by decide +kernel
theorem dJx4a65c_init_da8c8_0 : decode cJx4a65c_init_da8c8 0 = .ok (.aload_n 0, 1) := by decide +kernel
theorem dJx4a65c_init_da8c8_1 : decode cJx4a65c_init_da8c8 1 = .ok (.invokespecial 1, 3) := by decide +kernel
theorem dJx4a65c_init_da8c8_4 : decode cJx4a65c_init_da8c8 4 = .ok (.aload_n 0, 1) := by decide +kernel
theorem dJx4a65c_init_da8c8_5 : decode cJx4a65c_init_da8c8 5 = .ok (.getstatic 39, 3) := by decide +kernel
theorem dJx4a65c_init_da8c8_8 : decode cJx4a65c_init_da8c8 8 = .ok (.putfield 9, 3) := by decide +kernel
theorem dJx4a65c_init_da8c8_11 : decode cJx4a65c_init_da8c8 11 = .ok (.return_, 1) := by decide +kernel
theorem dJx4a65c_grow_92f84_0 : decode cJx4a65c_grow_92f84 0 = .ok (.aload_n 0, 1) := by decide +kernel
theorem dJx4a65c_grow_92f84_1 : decode cJx4a65c_grow_92f84 1 = .ok (.getfield 9, 3) := by decide +kernel
theorem dJx4a65c_grow_92f84_4 : decode cJx4a65c_grow_92f84 4 = .ok (.arraylength, 1) := by decide +kernel
theorem dJx4a65c_grow_92f84_5 : decode cJx4a65c_grow_92f84 5 = .ok (.istore_n 2, 1) := by decide +kernel
theorem dJx4a65c_grow_92f84_6 : decode cJx4a65c_grow_92f84 6 = .ok (.iload_n 2, 1) := by decide +kernel
theorem dJx4a65c_grow_92f84_7 : decode cJx4a65c_grow_92f84 7 = .ok (.ifCond .gt 13, 3) := by decide +kernel
theorem dJx4a65c_grow_92f84_10 : decode cJx4a65c_grow_92f84 10 = .ok (.aload_n 0, 1) := by decide +kernel
theorem dJx4a65c_grow_92f84_11 : decode cJx4a65c_grow_92f84 11 = .ok (.getfield 9, 3) := by decide +kernel
theorem dJx4a65c_grow_92f84_14 : decode cJx4a65c_grow_92f84 14 = .ok (.getstatic 39, 3) := by decide +kernel
theorem dJx4a65c_grow_92f84_17 : decode cJx4a65c_grow_92f84 17 = .ok (.if_acmp .eq 28, 3) := by decide +kernel
theorem dJx4a65c_grow_92f84_20 : decode cJx4a65c_grow_92f84 20 = .ok (.iload_n 2, 1) := by decide +kernel
theorem dJx4a65c_grow_92f84_21 : decode cJx4a65c_grow_92f84 21 = .ok (.iload_n 1, 1) := by decide +kernel
theorem dJx4a65c_grow_92f84_22 : decode cJx4a65c_grow_92f84 22 = .ok (.iload_n 2, 1) := by decide +kernel
theorem dJx4a65c_grow_92f84_23 : decode cJx4a65c_grow_92f84 23 = .ok (.isub, 1) := by decide +kernel
theorem dJx4a65c_grow_92f84_24 : decode cJx4a65c_grow_92f84 24 = .ok (.iload_n 2, 1) := by decide +kernel
theorem dJx4a65c_grow_92f84_25 : decode cJx4a65c_grow_92f84 25 = .ok (.iconst 1, 1) := by decide +kernel
theorem dJx4a65c_grow_92f84_26 : decode cJx4a65c_grow_92f84 26 = .ok (.ishr, 1) := by decide +kernel
theorem dJx4a65c_grow_92f84_27 : decode cJx4a65c_grow_92f84 27 = .ok (.invokestatic 73, 3) := by decide +kernel
theorem dJx4a65c_grow_92f84_30 : decode cJx4a65c_grow_92f84 30 = .ok (.istore_n 3, 1) := by decide +kernel
theorem dJx4a65c_grow_92f84_31 : decode cJx4a65c_grow_92f84 31 = .ok (.aload_n 0, 1) := by decide +kernel
theorem dJx4a65c_grow_92f84_32 : decode cJx4a65c_grow_92f84 32 = .ok (.aload_n 0, 1) := by decide +kernel
theorem dJx4a65c_grow_92f84_33 : decode cJx4a65c_grow_92f84 33 = .ok (.getfield 9, 3) := by decide +kernel
theorem dJx4a65c_grow_92f84_36 : decode cJx4a65c_grow_92f84 36 = .ok (.iload_n 3, 1) := by decide +kernel
theorem dJx4a65c_grow_92f84_37 : decode cJx4a65c_grow_92f84 37 = .ok (.invokestatic 66, 3) := by decide +kernel
theorem dJx4a65c_grow_92f84_40 : decode cJx4a65c_grow_92f84 40 = .ok (.dup_x1, 1) := by decide +kernel
theorem dJx4a65c_grow_92f84_41 : decode cJx4a65c_grow_92f84 41 = .ok (.putfield 9, 3) := by decide +kernel
theorem dJx4a65c_grow_92f84_44 : decode cJx4a65c_grow_92f84 44 = .ok (.areturn, 1) := by decide +kernel
theorem dJx4a65c_grow_92f84_45 : decode cJx4a65c_grow_92f84 45 = .ok (.aload_n 0, 1) := by decide +kernel
theorem dJx4a65c_grow_92f84_46 : decode cJx4a65c_grow_92f84 46 = .ok (.bipush 10, 2) := by decide +kernel
theorem dJx4a65c_grow_92f84_48 : decode cJx4a65c_grow_92f84 48 = .ok (.iload_n 1, 1) := by decide +kernel
theorem dJx4a65c_grow_92f84_49 : decode cJx4a65c_grow_92f84 49 = .ok (.invokestatic 79, 3) := by decide +kernel
theorem dJx4a65c_grow_92f84_52 : decode cJx4a65c_grow_92f84 52 = .ok (.anewarray 7, 3) := by decide +kernel
theorem dJx4a65c_grow_92f84_55 : decode cJx4a65c_grow_92f84 55 = .ok (.dup_x1, 1) := by decide +kernel
theorem dJx4a65c_grow_92f84_56 : decode cJx4a65c_grow_92f84 56 = .ok (.putfield 9, 3) := by decide +kernel
theorem dJx4a65c_grow_92f84_59 : decode cJx4a65c_grow_92f84 59 = .ok (.areturn, 1) := by decide +kernel
theorem dJx4a65c_grow_d5877_0 : decode cJx4a65c_grow_d5877 0 = .ok (.aload_n 0, 1) := by decide +kernel
theorem dJx4a65c_grow_d5877_1 : decode cJx4a65c_grow_d5877 1 = .ok (.aload_n 0, 1) := by decide +kernel
theorem dJx4a65c_grow_d5877_2 : decode cJx4a65c_grow_d5877 2 = .ok (.getfield 48, 3) := by decide +kernel
theorem dJx4a65c_grow_d5877_5 : decode cJx4a65c_grow_d5877 5 = .ok (.iconst 1, 1) := by decide +kernel
theorem dJx4a65c_grow_d5877_6 : decode cJx4a65c_grow_d5877 6 = .ok (.iadd, 1) := by decide +kernel
theorem dJx4a65c_grow_d5877_7 : decode cJx4a65c_grow_d5877 7 = .ok (.invokevirtual 69, 3) := by decide +kernel
theorem dJx4a65c_grow_d5877_10 : decode cJx4a65c_grow_d5877 10 = .ok (.areturn, 1) := by decide +kernel
theorem dJx4a65c_size_8abf5_0 : decode cJx4a65c_size_8abf5 0 = .ok (.aload_n 0, 1) := by decide +kernel
theorem dJx4a65c_size_8abf5_1 : decode cJx4a65c_size_8abf5 1 = .ok (.getfield 48, 3) := by decide +kernel
theorem dJx4a65c_size_8abf5_4 : decode cJx4a65c_size_8abf5 4 = .ok (.ireturn, 1) := by decide +kernel
theorem dJx4a65c_elementData_915e3_0 : decode cJx4a65c_elementData_915e3 0 = .ok (.aload_n 0, 1) := by decide +kernel
theorem dJx4a65c_elementData_915e3_1 : decode cJx4a65c_elementData_915e3 1 = .ok (.getfield 9, 3) := by decide +kernel
theorem dJx4a65c_elementData_915e3_4 : decode cJx4a65c_elementData_915e3 4 = .ok (.iload_n 1, 1) := by decide +kernel
theorem dJx4a65c_elementData_915e3_5 : decode cJx4a65c_elementData_915e3 5 = .ok (.aaload, 1) := by decide +kernel
theorem dJx4a65c_elementData_915e3_6 : decode cJx4a65c_elementData_915e3 6 = .ok (.areturn, 1) := by decide +kernel
theorem dJx4a65c_get_915e3_0 : decode cJx4a65c_get_915e3 0 = .ok (.iload_n 1, 1) := by decide +kernel
theorem dJx4a65c_get_915e3_1 : decode cJx4a65c_get_915e3 1 = .ok (.aload_n 0, 1) := by decide +kernel
theorem dJx4a65c_get_915e3_2 : decode cJx4a65c_get_915e3 2 = .ok (.getfield 48, 3) := by decide +kernel
theorem dJx4a65c_get_915e3_5 : decode cJx4a65c_get_915e3 5 = .ok (.invokestatic 118, 3) := by decide +kernel
theorem dJx4a65c_get_915e3_8 : decode cJx4a65c_get_915e3 8 = .ok (.pop, 1) := by decide +kernel
theorem dJx4a65c_get_915e3_9 : decode cJx4a65c_get_915e3 9 = .ok (.aload_n 0, 1) := by decide +kernel
theorem dJx4a65c_get_915e3_10 : decode cJx4a65c_get_915e3 10 = .ok (.iload_n 1, 1) := by decide +kernel
theorem dJx4a65c_get_915e3_11 : decode cJx4a65c_get_915e3 11 = .ok (.invokevirtual 123, 3) := by decide +kernel
theorem dJx4a65c_get_915e3_14 : decode cJx4a65c_get_915e3 14 = .ok (.areturn, 1) := by decide +kernel
theorem dJx4a65c_add_72be8_0 : decode cJx4a65c_add_72be8 0 = .ok (.iload_n 3, 1) := by decide +kernel
theorem dJx4a65c_add_72be8_1 : decode cJx4a65c_add_72be8 1 = .ok (.aload_n 2, 1) := by decide +kernel
theorem dJx4a65c_add_72be8_2 : decode cJx4a65c_add_72be8 2 = .ok (.arraylength, 1) := by decide +kernel
theorem dJx4a65c_add_72be8_3 : decode cJx4a65c_add_72be8 3 = .ok (.if_icmp .ne 8, 3) := by decide +kernel
theorem dJx4a65c_add_72be8_6 : decode cJx4a65c_add_72be8 6 = .ok (.aload_n 0, 1) := by decide +kernel
theorem dJx4a65c_add_72be8_7 : decode cJx4a65c_add_72be8 7 = .ok (.invokevirtual 129, 3) := by decide +kernel
theorem dJx4a65c_add_72be8_10 : decode cJx4a65c_add_72be8 10 = .ok (.astore_n 2, 1) := by decide +kernel
theorem dJx4a65c_add_72be8_11 : decode cJx4a65c_add_72be8 11 = .ok (.aload_n 2, 1) := by decide +kernel
theorem dJx4a65c_add_72be8_12 : decode cJx4a65c_add_72be8 12 = .ok (.iload_n 3, 1) := by decide +kernel
theorem dJx4a65c_add_72be8_13 : decode cJx4a65c_add_72be8 13 = .ok (.aload_n 1, 1) := by decide +kernel
theorem dJx4a65c_add_72be8_14 : decode cJx4a65c_add_72be8 14 = .ok (.aastore, 1) := by decide +kernel
theorem dJx4a65c_add_72be8_15 : decode cJx4a65c_add_72be8 15 = .ok (.aload_n 0, 1) := by decide +kernel
theorem dJx4a65c_add_72be8_16 : decode cJx4a65c_add_72be8 16 = .ok (.iload_n 3, 1) := by decide +kernel
theorem dJx4a65c_add_72be8_17 : decode cJx4a65c_add_72be8 17 = .ok (.iconst 1, 1) := by decide +kernel
theorem dJx4a65c_add_72be8_18 : decode cJx4a65c_add_72be8 18 = .ok (.iadd, 1) := by decide +kernel
theorem dJx4a65c_add_72be8_19 : decode cJx4a65c_add_72be8 19 = .ok (.putfield 48, 3) := by decide +kernel
theorem dJx4a65c_add_72be8_22 : decode cJx4a65c_add_72be8 22 = .ok (.return_, 1) := by decide +kernel
theorem dJx4a65c_add_9ea2d_0 : decode cJx4a65c_add_9ea2d 0 = .ok (.aload_n 0, 1) := by decide +kernel
theorem dJx4a65c_add_9ea2d_1 : decode cJx4a65c_add_9ea2d 1 = .ok (.dup, 1) := by decide +kernel
theorem dJx4a65c_add_9ea2d_2 : decode cJx4a65c_add_9ea2d 2 = .ok (.getfield 63, 3) := by decide +kernel
theorem dJx4a65c_add_9ea2d_5 : decode cJx4a65c_add_9ea2d 5 = .ok (.iconst 1, 1) := by decide +kernel
theorem dJx4a65c_add_9ea2d_6 : decode cJx4a65c_add_9ea2d 6 = .ok (.iadd, 1) := by decide +kernel
theorem dJx4a65c_add_9ea2d_7 : decode cJx4a65c_add_9ea2d 7 = .ok (.putfield 63, 3) := by decide +kernel
theorem dJx4a65c_add_9ea2d_10 : decode cJx4a65c_add_9ea2d 10 = .ok (.aload_n 0, 1) := by decide +kernel
theorem dJx4a65c_add_9ea2d_11 : decode cJx4a65c_add_9ea2d 11 = .ok (.aload_n 1, 1) := by decide +kernel
theorem dJx4a65c_add_9ea2d_12 : decode cJx4a65c_add_9ea2d 12 = .ok (.aload_n 0, 1) := by decide +kernel
theorem dJx4a65c_add_9ea2d_13 : decode cJx4a65c_add_9ea2d 13 = .ok (.getfield 9, 3) := by decide +kernel
theorem dJx4a65c_add_9ea2d_16 : decode cJx4a65c_add_9ea2d 16 = .ok (.aload_n 0, 1) := by decide +kernel
theorem dJx4a65c_add_9ea2d_17 : decode cJx4a65c_add_9ea2d 17 = .ok (.getfield 48, 3) := by decide +kernel
theorem dJx4a65c_add_9ea2d_20 : decode cJx4a65c_add_9ea2d 20 = .ok (.invokevirtual 131, 3) := by decide +kernel
theorem dJx4a65c_add_9ea2d_23 : decode cJx4a65c_add_9ea2d 23 = .ok (.iconst 1, 1) := by decide +kernel
theorem dJx4a65c_add_9ea2d_24 : decode cJx4a65c_add_9ea2d 24 = .ok (.ireturn, 1) := by decide +kernel
theorem dJ7_fill_53178_0 : decode cJ7_fill_53178 0 = .ok (.iconst 0, 1) := by decide +kernel
theorem dJ7_fill_53178_1 : decode cJ7_fill_53178 1 = .ok (.istore_n 2, 1) := by decide +kernel
theorem dJ7_fill_53178_2 : decode cJ7_fill_53178 2 = .ok (.aload_n 0, 1) := by decide +kernel
theorem dJ7_fill_53178_3 : decode cJ7_fill_53178 3 = .ok (.arraylength, 1) := by decide +kernel
theorem dJ7_fill_53178_4 : decode cJ7_fill_53178 4 = .ok (.istore_n 3, 1) := by decide +kernel
theorem dJ7_fill_53178_5 : decode cJ7_fill_53178 5 = .ok (.iload_n 2, 1) := by decide +kernel
theorem dJ7_fill_53178_6 : decode cJ7_fill_53178 6 = .ok (.iload_n 3, 1) := by decide +kernel
theorem dJ7_fill_53178_7 : decode cJ7_fill_53178 7 = .ok (.if_icmp .ge 13, 3) := by decide +kernel
theorem dJ7_fill_53178_10 : decode cJ7_fill_53178 10 = .ok (.aload_n 0, 1) := by decide +kernel
theorem dJ7_fill_53178_11 : decode cJ7_fill_53178 11 = .ok (.iload_n 2, 1) := by decide +kernel
theorem dJ7_fill_53178_12 : decode cJ7_fill_53178 12 = .ok (.iload_n 1, 1) := by decide +kernel
theorem dJ7_fill_53178_13 : decode cJ7_fill_53178 13 = .ok (.iastore, 1) := by decide +kernel
theorem dJ7_fill_53178_14 : decode cJ7_fill_53178 14 = .ok (.iinc 2 1, 3) := by decide +kernel
theorem dJ7_fill_53178_17 : decode cJ7_fill_53178 17 = .ok (.goto (-12), 3) := by decide +kernel
theorem dJ7_fill_53178_20 : decode cJ7_fill_53178 20 = .ok (.return_, 1) := by decide +kernel
theorem dJ7_copyOf_1904c_0 : decode cJ7_copyOf_1904c 0 = .ok (.aload_n 0, 1) := by decide +kernel
theorem dJ7_copyOf_1904c_1 : decode cJ7_copyOf_1904c 1 = .ok (.iload_n 1, 1) := by decide +kernel
theorem dJ7_copyOf_1904c_2 : decode cJ7_copyOf_1904c 2 = .ok (.aload_n 0, 1) := by decide +kernel
theorem dJ7_copyOf_1904c_3 : decode cJ7_copyOf_1904c 3 = .ok (.invokevirtual 86, 3) := by decide +kernel
theorem dJ7_copyOf_1904c_6 : decode cJ7_copyOf_1904c 6 = .ok (.invokestatic 300, 3) := by decide +kernel
theorem dJ7_copyOf_1904c_9 : decode cJ7_copyOf_1904c 9 = .ok (.areturn, 1) := by decide +kernel
theorem dJ7_copyOf_6403c_0 : decode cJ7_copyOf_6403c 0 = .ok (.aload_n 2, 1) := by decide +kernel
theorem dJ7_copyOf_6403c_1 : decode cJ7_copyOf_6403c 1 = .ok (.ldc 110, 2) := by decide +kernel
theorem dJ7_copyOf_6403c_3 : decode cJ7_copyOf_6403c 3 = .ok (.if_acmp .ne 10, 3) := by decide +kernel
theorem dJ7_copyOf_6403c_6 : decode cJ7_copyOf_6403c 6 = .ok (.iload_n 1, 1) := by decide +kernel
theorem dJ7_copyOf_6403c_7 : decode cJ7_copyOf_6403c 7 = .ok (.anewarray 2, 3) := by decide +kernel
theorem dJ7_copyOf_6403c_10 : decode cJ7_copyOf_6403c 10 = .ok (.goto 14, 3) := by decide +kernel
theorem dJ7_copyOf_6403c_13 : decode cJ7_copyOf_6403c 13 = .ok (.aload_n 2, 1) := by decide +kernel
theorem dJ7_copyOf_6403c_14 : decode cJ7_copyOf_6403c 14 = .ok (.invokevirtual 90, 3) := by decide +kernel
theorem dJ7_copyOf_6403c_17 : decode cJ7_copyOf_6403c 17 = .ok (.iload_n 1, 1) := by decide +kernel
theorem dJ7_copyOf_6403c_18 : decode cJ7_copyOf_6403c 18 = .ok (.invokestatic 95, 3) := by decide +kernel
theorem dJ7_copyOf_6403c_21 : decode cJ7_copyOf_6403c 21 = .ok (.checkcast 110, 3) := by decide +kernel
theorem dJ7_copyOf_6403c_24 : decode cJ7_copyOf_6403c 24 = .ok (.astore_n 3, 1) := by decide +kernel
theorem dJ7_copyOf_6403c_25 : decode cJ7_copyOf_6403c 25 = .ok (.aload_n 0, 1) := by decide +kernel
theorem dJ7_copyOf_6403c_26 : decode cJ7_copyOf_6403c 26 = .ok (.iconst 0, 1) := by decide +kernel
theorem dJ7_copyOf_6403c_27 : decode cJ7_copyOf_6403c 27 = .ok (.aload_n 3, 1) := by decide +kernel
theorem dJ7_copyOf_6403c_28 : decode cJ7_copyOf_6403c 28 = .ok (.iconst 0, 1) := by decide +kernel
theorem dJ7_copyOf_6403c_29 : decode cJ7_copyOf_6403c 29 = .ok (.aload_n 0, 1) := by decide +kernel
theorem dJ7_copyOf_6403c_30 : decode cJ7_copyOf_6403c 30 = .ok (.arraylength, 1) := by decide +kernel
theorem dJ7_copyOf_6403c_31 : decode cJ7_copyOf_6403c 31 = .ok (.iload_n 1, 1) := by decide +kernel
theorem dJ7_copyOf_6403c_32 : decode cJ7_copyOf_6403c 32 = .ok (.invokestatic 304, 3) := by decide +kernel
theorem dJ7_copyOf_6403c_35 : decode cJ7_copyOf_6403c 35 = .ok (.invokestatic 150, 3) := by decide +kernel
theorem dJ7_copyOf_6403c_38 : decode cJ7_copyOf_6403c 38 = .ok (.aload_n 3, 1) := by decide +kernel
theorem dJ7_copyOf_6403c_39 : decode cJ7_copyOf_6403c 39 = .ok (.areturn, 1) := by decide +kernel
theorem dJ15_checkIndex_7cf53_0 : decode cJ15_checkIndex_7cf53 0 = .ok (.iload_n 0, 1) := by decide +kernel
theorem dJ15_checkIndex_7cf53_1 : decode cJ15_checkIndex_7cf53 1 = .ok (.iload_n 1, 1) := by decide +kernel
theorem dJ15_checkIndex_7cf53_2 : decode cJ15_checkIndex_7cf53 2 = .ok (.aconst_null, 1) := by decide +kernel
theorem dJ15_checkIndex_7cf53_3 : decode cJ15_checkIndex_7cf53 3 = .ok (.invokestatic 105, 3) := by decide +kernel
theorem dJ15_checkIndex_7cf53_6 : decode cJ15_checkIndex_7cf53 6 = .ok (.ireturn, 1) := by decide +kernel
theorem dJ8_newLength_cabcc_0 : decode cJ8_newLength_cabcc 0 = .ok (.iload_n 0, 1) := by decide +kernel
theorem dJ8_newLength_cabcc_1 : decode cJ8_newLength_cabcc 1 = .ok (.iload_n 1, 1) := by decide +kernel
theorem dJ8_newLength_cabcc_2 : decode cJ8_newLength_cabcc 2 = .ok (.iload_n 2, 1) := by decide +kernel
theorem dJ8_newLength_cabcc_3 : decode cJ8_newLength_cabcc 3 = .ok (.invokestatic 194, 3) := by decide +kernel
theorem dJ8_newLength_cabcc_6 : decode cJ8_newLength_cabcc 6 = .ok (.iadd, 1) := by decide +kernel
theorem dJ8_newLength_cabcc_7 : decode cJ8_newLength_cabcc 7 = .ok (.istore_n 3, 1) := by decide +kernel
theorem dJ8_newLength_cabcc_8 : decode cJ8_newLength_cabcc 8 = .ok (.iconst 0, 1) := by decide +kernel
theorem dJ8_newLength_cabcc_9 : decode cJ8_newLength_cabcc 9 = .ok (.iload_n 3, 1) := by decide +kernel
theorem dJ8_newLength_cabcc_10 : decode cJ8_newLength_cabcc 10 = .ok (.if_icmp .ge 11, 3) := by decide +kernel
theorem dJ8_newLength_cabcc_13 : decode cJ8_newLength_cabcc 13 = .ok (.iload_n 3, 1) := by decide +kernel
theorem dJ8_newLength_cabcc_14 : decode cJ8_newLength_cabcc 14 = .ok (.ldc 200, 2) := by decide +kernel
theorem dJ8_newLength_cabcc_16 : decode cJ8_newLength_cabcc 16 = .ok (.if_icmp .gt 5, 3) := by decide +kernel
theorem dJ8_newLength_cabcc_19 : decode cJ8_newLength_cabcc 19 = .ok (.iload_n 3, 1) := by decide +kernel
theorem dJ8_newLength_cabcc_20 : decode cJ8_newLength_cabcc 20 = .ok (.ireturn, 1) := by decide +kernel
theorem dJ8_newLength_cabcc_21 : decode cJ8_newLength_cabcc 21 = .ok (.iload_n 0, 1) := by decide +kernel
theorem dJ8_newLength_cabcc_22 : decode cJ8_newLength_cabcc 22 = .ok (.iload_n 1, 1) := by decide +kernel
theorem dJ8_newLength_cabcc_23 : decode cJ8_newLength_cabcc 23 = .ok (.invokestatic 201, 3) := by decide +kernel
theorem dJ8_newLength_cabcc_26 : decode cJ8_newLength_cabcc 26 = .ok (.ireturn, 1) := by decide +kernel
theorem dJ8_hugeLength_7cf53_0 : decode cJ8_hugeLength_7cf53 0 = .ok (.iload_n 0, 1) := by decide +kernel
theorem dJ8_hugeLength_7cf53_1 : decode cJ8_hugeLength_7cf53 1 = .ok (.iload_n 1, 1) := by decide +kernel
theorem dJ8_hugeLength_7cf53_2 : decode cJ8_hugeLength_7cf53 2 = .ok (.iadd, 1) := by decide +kernel
theorem dJ8_hugeLength_7cf53_3 : decode cJ8_hugeLength_7cf53 3 = .ok (.istore_n 2, 1) := by decide +kernel
theorem dJ8_hugeLength_7cf53_4 : decode cJ8_hugeLength_7cf53 4 = .ok (.iload_n 2, 1) := by decide +kernel
theorem dJ8_hugeLength_7cf53_5 : decode cJ8_hugeLength_7cf53 5 = .ok (.ifCond .ge 44, 3) := by decide +kernel
theorem dJ8_hugeLength_7cf53_8 : decode cJ8_hugeLength_7cf53 8 = .ok (.new 204, 3) := by decide +kernel
theorem dJ8_hugeLength_7cf53_11 : decode cJ8_hugeLength_7cf53 11 = .ok (.dup, 1) := by decide +kernel
theorem dJ8_hugeLength_7cf53_12 : decode cJ8_hugeLength_7cf53 12 = .ok (.new 89, 3) := by decide +kernel
theorem dJ8_hugeLength_7cf53_15 : decode cJ8_hugeLength_7cf53 15 = .ok (.dup, 1) := by decide +kernel
theorem dJ8_hugeLength_7cf53_16 : decode cJ8_hugeLength_7cf53 16 = .ok (.invokespecial 91, 3) := by decide +kernel
theorem dJ8_hugeLength_7cf53_19 : decode cJ8_hugeLength_7cf53 19 = .ok (.ldc 206, 2) := by decide +kernel
theorem dJ8_hugeLength_7cf53_21 : decode cJ8_hugeLength_7cf53 21 = .ok (.invokevirtual 94, 3) := by decide +kernel
theorem dJ8_hugeLength_7cf53_24 : decode cJ8_hugeLength_7cf53 24 = .ok (.iload_n 0, 1) := by decide +kernel
theorem dJ8_hugeLength_7cf53_25 : decode cJ8_hugeLength_7cf53 25 = .ok (.invokevirtual 98, 3) := by decide +kernel
theorem dJ8_hugeLength_7cf53_28 : decode cJ8_hugeLength_7cf53 28 = .ok (.ldc 208, 2) := by decide +kernel
theorem dJ8_hugeLength_7cf53_30 : decode cJ8_hugeLength_7cf53 30 = .ok (.invokevirtual 94, 3) := by decide +kernel
theorem dJ8_hugeLength_7cf53_33 : decode cJ8_hugeLength_7cf53 33 = .ok (.iload_n 1, 1) := by decide +kernel
theorem dJ8_hugeLength_7cf53_34 : decode cJ8_hugeLength_7cf53 34 = .ok (.invokevirtual 98, 3) := by decide +kernel
theorem dJ8_hugeLength_7cf53_37 : decode cJ8_hugeLength_7cf53 37 = .ok (.ldc 210, 2) := by decide +kernel
theorem dJ8_hugeLength_7cf53_39 : decode cJ8_hugeLength_7cf53 39 = .ok (.invokevirtual 94, 3) := by decide +kernel
theorem dJ8_hugeLength_7cf53_42 : decode cJ8_hugeLength_7cf53 42 = .ok (.invokevirtual 101, 3) := by decide +kernel
theorem dJ8_hugeLength_7cf53_45 : decode cJ8_hugeLength_7cf53 45 = .ok (.invokespecial 212, 3) := by decide +kernel
theorem dJ8_hugeLength_7cf53_48 : decode cJ8_hugeLength_7cf53 48 = .ok (.athrow, 1) := by decide +kernel
theorem dJ8_hugeLength_7cf53_49 : decode cJ8_hugeLength_7cf53 49 = .ok (.iload_n 2, 1) := by decide +kernel
theorem dJ8_hugeLength_7cf53_50 : decode cJ8_hugeLength_7cf53 50 = .ok (.ldc 200, 2) := by decide +kernel
theorem dJ8_hugeLength_7cf53_52 : decode cJ8_hugeLength_7cf53 52 = .ok (.if_icmp .gt 6, 3) := by decide +kernel
theorem dJ8_hugeLength_7cf53_55 : decode cJ8_hugeLength_7cf53 55 = .ok (.ldc 200, 2) := by decide +kernel
theorem dJ8_hugeLength_7cf53_57 : decode cJ8_hugeLength_7cf53 57 = .ok (.ireturn, 1) := by decide +kernel
theorem dJ8_hugeLength_7cf53_58 : decode cJ8_hugeLength_7cf53 58 = .ok (.iload_n 2, 1) := by decide +kernel
theorem dJ8_hugeLength_7cf53_59 : decode cJ8_hugeLength_7cf53 59 = .ok (.ireturn, 1) := by decide +kernel
theorem dJ3_checkIndex_8e157_0 : decode cJ3_checkIndex_8e157 0 = .ok (.iload_n 0, 1) := by decide +kernel
theorem dJ3_checkIndex_8e157_1 : decode cJ3_checkIndex_8e157 1 = .ok (.ifCond .lt 8, 3) := by decide +kernel
theorem dJ3_checkIndex_8e157_4 : decode cJ3_checkIndex_8e157 4 = .ok (.iload_n 0, 1) := by decide +kernel
theorem dJ3_checkIndex_8e157_5 : decode cJ3_checkIndex_8e157 5 = .ok (.iload_n 1, 1) := by decide +kernel
theorem dJ3_checkIndex_8e157_6 : decode cJ3_checkIndex_8e157 6 = .ok (.if_icmp .lt 10, 3) := by decide +kernel
theorem dJ3_checkIndex_8e157_9 : decode cJ3_checkIndex_8e157 9 = .ok (.aload_n 2, 1) := by decide +kernel
theorem dJ3_checkIndex_8e157_10 : decode cJ3_checkIndex_8e157 10 = .ok (.iload_n 0, 1) := by decide +kernel
theorem dJ3_checkIndex_8e157_11 : decode cJ3_checkIndex_8e157 11 = .ok (.iload_n 1, 1) := by decide +kernel
theorem dJ3_checkIndex_8e157_12 : decode cJ3_checkIndex_8e157 12 = .ok (.invokestatic 95, 3) := by decide +kernel
theorem dJ3_checkIndex_8e157_15 : decode cJ3_checkIndex_8e157 15 = .ok (.athrow, 1) := by decide +kernel
theorem dJ3_checkIndex_8e157_16 : decode cJ3_checkIndex_8e157 16 = .ok (.iload_n 0, 1) := by decide +kernel
theorem dJ3_checkIndex_8e157_17 : decode cJ3_checkIndex_8e157 17 = .ok (.ireturn, 1) := by decide +kernel
theorem dL_join_0 : decode cL_join 0 = .ok (.aload_n 3, 1) := by decide +kernel
theorem dL_join_1 : decode cL_join 1 = .ok (.iconst 0, 1) := by decide +kernel
theorem dL_join_2 : decode cL_join 2 = .ok (.aload_n 0, 1) := by decide +kernel
theorem dL_join_3 : decode cL_join 3 = .ok (.iload_n 1, 1) := by decide +kernel
theorem dL_join_4 : decode cL_join 4 = .ok (.iload_n 2, 1) := by decide +kernel
theorem dL_join_5 : decode cL_join 5 = .ok (.invokevirtual 7, 3) := by decide +kernel
theorem dL_join_8 : decode cL_join 8 = .ok (.i2l, 1) := by decide +kernel
theorem dL_join_9 : decode cL_join 9 = .ok (.lastore, 1) := by decide +kernel
theorem dL_join_10 : decode cL_join 10 = .ok (.goto 15, 3) := by decide +kernel
theorem dL_join_13 : decode cL_join 13 = .ok (.astore 4, 2) := by decide +kernel
theorem dL_join_15 : decode cL_join 15 = .ok (.iconst 1, 1) := by decide +kernel
theorem dL_join_16 : decode cL_join 16 = .ok (.ireturn, 1) := by decide +kernel
theorem dL_join_17 : decode cL_join 17 = .ok (.astore 4, 2) := by decide +kernel
theorem dL_join_19 : decode cL_join 19 = .ok (.iconst 2, 1) := by decide +kernel
theorem dL_join_20 : decode cL_join 20 = .ok (.ireturn, 1) := by decide +kernel
theorem dL_join_21 : decode cL_join 21 = .ok (.astore 4, 2) := by decide +kernel
theorem dL_join_23 : decode cL_join 23 = .ok (.iconst 3, 1) := by decide +kernel
theorem dL_join_24 : decode cL_join 24 = .ok (.ireturn, 1) := by decide +kernel
theorem dL_join_25 : decode cL_join 25 = .ok (.iconst 0, 1) := by decide +kernel
theorem dL_join_26 : decode cL_join 26 = .ok (.ireturn, 1) := by decide +kernel
theorem dL_cut_0 : decode cL_cut 0 = .ok (.aload_n 3, 1) := by decide +kernel
theorem dL_cut_1 : decode cL_cut 1 = .ok (.iconst 0, 1) := by decide +kernel
theorem dL_cut_2 : decode cL_cut 2 = .ok (.aload_n 0, 1) := by decide +kernel
theorem dL_cut_3 : decode cL_cut 3 = .ok (.iload_n 1, 1) := by decide +kernel
theorem dL_cut_4 : decode cL_cut 4 = .ok (.iload_n 2, 1) := by decide +kernel
theorem dL_cut_5 : decode cL_cut 5 = .ok (.invokevirtual 19, 3) := by decide +kernel
theorem dL_cut_8 : decode cL_cut 8 = .ok (.i2l, 1) := by decide +kernel
theorem dL_cut_9 : decode cL_cut 9 = .ok (.lastore, 1) := by decide +kernel
theorem dL_cut_10 : decode cL_cut 10 = .ok (.goto 15, 3) := by decide +kernel
theorem dL_cut_13 : decode cL_cut 13 = .ok (.astore 4, 2) := by decide +kernel
theorem dL_cut_15 : decode cL_cut 15 = .ok (.iconst 1, 1) := by decide +kernel
theorem dL_cut_16 : decode cL_cut 16 = .ok (.ireturn, 1) := by decide +kernel
theorem dL_cut_17 : decode cL_cut 17 = .ok (.astore 4, 2) := by decide +kernel
theorem dL_cut_19 : decode cL_cut 19 = .ok (.iconst 2, 1) := by decide +kernel
theorem dL_cut_20 : decode cL_cut 20 = .ok (.ireturn, 1) := by decide +kernel
theorem dL_cut_21 : decode cL_cut 21 = .ok (.astore 4, 2) := by decide +kernel
theorem dL_cut_23 : decode cL_cut 23 = .ok (.iconst 3, 1) := by decide +kernel
theorem dL_cut_24 : decode cL_cut 24 = .ok (.ireturn, 1) := by decide +kernel
theorem dL_cut_25 : decode cL_cut 25 = .ok (.iconst 0, 1) := by decide +kernel
theorem dL_cut_26 : decode cL_cut 26 = .ok (.ireturn, 1) := by decide +kernel
theorem dL_pass_0 : decode cL_pass 0 = .ok (.aload_n 2, 1) := by decide +kernel
theorem dL_pass_1 : decode cL_pass 1 = .ok (.iconst 0, 1) := by decide +kernel
theorem dL_pass_2 : decode cL_pass 2 = .ok (.aload_n 0, 1) := by decide +kernel
theorem dL_pass_3 : decode cL_pass 3 = .ok (.iload_n 1, 1) := by decide +kernel
theorem dL_pass_4 : decode cL_pass 4 = .ok (.invokevirtual 22, 3) := by decide +kernel
theorem dL_pass_7 : decode cL_pass 7 = .ok (.i2l, 1) := by decide +kernel
theorem dL_pass_8 : decode cL_pass 8 = .ok (.lastore, 1) := by decide +kernel
theorem dL_pass_9 : decode cL_pass 9 = .ok (.goto 9, 3) := by decide +kernel
theorem dL_pass_12 : decode cL_pass 12 = .ok (.astore_n 3, 1) := by decide +kernel
theorem dL_pass_13 : decode cL_pass 13 = .ok (.iconst 1, 1) := by decide +kernel
theorem dL_pass_14 : decode cL_pass 14 = .ok (.ireturn, 1) := by decide +kernel
theorem dL_pass_15 : decode cL_pass 15 = .ok (.astore_n 3, 1) := by decide +kernel
theorem dL_pass_16 : decode cL_pass 16 = .ok (.iconst 2, 1) := by decide +kernel
theorem dL_pass_17 : decode cL_pass 17 = .ok (.ireturn, 1) := by decide +kernel
theorem dL_pass_18 : decode cL_pass 18 = .ok (.iconst 0, 1) := by decide +kernel
theorem dL_pass_19 : decode cL_pass 19 = .ok (.ireturn, 1) := by decide +kernel
theorem dL_read_0 : decode cL_read 0 = .ok (.aload_n 2, 1) := by decide +kernel
theorem dL_read_1 : decode cL_read 1 = .ok (.iconst 0, 1) := by decide +kernel
theorem dL_read_2 : decode cL_read 2 = .ok (.aload_n 0, 1) := by decide +kernel
theorem dL_read_3 : decode cL_read 3 = .ok (.iload_n 1, 1) := by decide +kernel
theorem dL_read_4 : decode cL_read 4 = .ok (.invokevirtual 26, 3) := by decide +kernel
theorem dL_read_7 : decode cL_read 7 = .ok (.i2l, 1) := by decide +kernel
theorem dL_read_8 : decode cL_read 8 = .ok (.lastore, 1) := by decide +kernel
theorem dL_read_9 : decode cL_read 9 = .ok (.goto 6, 3) := by decide +kernel
theorem dL_read_12 : decode cL_read 12 = .ok (.astore_n 3, 1) := by decide +kernel
theorem dL_read_13 : decode cL_read 13 = .ok (.iconst 1, 1) := by decide +kernel
theorem dL_read_14 : decode cL_read 14 = .ok (.ireturn, 1) := by decide +kernel
theorem dL_read_15 : decode cL_read 15 = .ok (.iconst 0, 1) := by decide +kernel
theorem dL_read_16 : decode cL_read 16 = .ok (.ireturn, 1) := by decide +kernel
theorem dL_draft_0 : decode cL_draft 0 = .ok (.aload_n 0, 1) := by decide +kernel
theorem dL_draft_1 : decode cL_draft 1 = .ok (.iload_n 1, 1) := by decide +kernel
theorem dL_draft_2 : decode cL_draft 2 = .ok (.iload_n 2, 1) := by decide +kernel
theorem dL_draft_3 : decode cL_draft 3 = .ok (.iload_n 3, 1) := by decide +kernel
theorem dL_draft_4 : decode cL_draft 4 = .ok (.iload 4, 2) := by decide +kernel
theorem dL_draft_6 : decode cL_draft 6 = .ok (.iload 5, 2) := by decide +kernel
theorem dL_draft_8 : decode cL_draft 8 = .ok (.invokevirtual 29, 3) := by decide +kernel
theorem dL_draft_11 : decode cL_draft 11 = .ok (.goto 7, 3) := by decide +kernel
theorem dL_draft_14 : decode cL_draft 14 = .ok (.astore 6, 2) := by decide +kernel
theorem dL_draft_16 : decode cL_draft 16 = .ok (.iconst 1, 1) := by decide +kernel
theorem dL_draft_17 : decode cL_draft 17 = .ok (.ireturn, 1) := by decide +kernel
theorem dL_draft_18 : decode cL_draft 18 = .ok (.iconst 0, 1) := by decide +kernel
theorem dL_draft_19 : decode cL_draft 19 = .ok (.ireturn, 1) := by decide +kernel
theorem dL_grant_0 : decode cL_grant 0 = .ok (.aload 4, 2) := by decide +kernel
theorem dL_grant_2 : decode cL_grant 2 = .ok (.iconst 0, 1) := by decide +kernel
theorem dL_grant_3 : decode cL_grant 3 = .ok (.aload_n 0, 1) := by decide +kernel
theorem dL_grant_4 : decode cL_grant 4 = .ok (.iload_n 1, 1) := by decide +kernel
theorem dL_grant_5 : decode cL_grant 5 = .ok (.iload_n 2, 1) := by decide +kernel
theorem dL_grant_6 : decode cL_grant 6 = .ok (.iload_n 3, 1) := by decide +kernel
theorem dL_grant_7 : decode cL_grant 7 = .ok (.invokevirtual 33, 3) := by decide +kernel
theorem dL_grant_10 : decode cL_grant 10 = .ok (.i2l, 1) := by decide +kernel
theorem dL_grant_11 : decode cL_grant 11 = .ok (.lastore, 1) := by decide +kernel
theorem dL_grant_12 : decode cL_grant 12 = .ok (.goto 15, 3) := by decide +kernel
theorem dL_grant_15 : decode cL_grant 15 = .ok (.astore 5, 2) := by decide +kernel
theorem dL_grant_17 : decode cL_grant 17 = .ok (.iconst 1, 1) := by decide +kernel
theorem dL_grant_18 : decode cL_grant 18 = .ok (.ireturn, 1) := by decide +kernel
theorem dL_grant_19 : decode cL_grant 19 = .ok (.astore 5, 2) := by decide +kernel
theorem dL_grant_21 : decode cL_grant 21 = .ok (.iconst 2, 1) := by decide +kernel
theorem dL_grant_22 : decode cL_grant 22 = .ok (.ireturn, 1) := by decide +kernel
theorem dL_grant_23 : decode cL_grant 23 = .ok (.astore 5, 2) := by decide +kernel
theorem dL_grant_25 : decode cL_grant 25 = .ok (.iconst 3, 1) := by decide +kernel
theorem dL_grant_26 : decode cL_grant 26 = .ok (.ireturn, 1) := by decide +kernel
theorem dL_grant_27 : decode cL_grant 27 = .ok (.iconst 0, 1) := by decide +kernel
theorem dL_grant_28 : decode cL_grant 28 = .ok (.ireturn, 1) := by decide +kernel
theorem dL_passOn_0 : decode cL_passOn 0 = .ok (.aload 4, 2) := by decide +kernel
theorem dL_passOn_2 : decode cL_passOn 2 = .ok (.iconst 0, 1) := by decide +kernel
theorem dL_passOn_3 : decode cL_passOn 3 = .ok (.aload_n 0, 1) := by decide +kernel
theorem dL_passOn_4 : decode cL_passOn 4 = .ok (.iload_n 1, 1) := by decide +kernel
theorem dL_passOn_5 : decode cL_passOn 5 = .ok (.iload_n 2, 1) := by decide +kernel
theorem dL_passOn_6 : decode cL_passOn 6 = .ok (.iload_n 3, 1) := by decide +kernel
theorem dL_passOn_7 : decode cL_passOn 7 = .ok (.invokevirtual 37, 3) := by decide +kernel
theorem dL_passOn_10 : decode cL_passOn 10 = .ok (.i2l, 1) := by decide +kernel
theorem dL_passOn_11 : decode cL_passOn 11 = .ok (.lastore, 1) := by decide +kernel
theorem dL_passOn_12 : decode cL_passOn 12 = .ok (.goto 15, 3) := by decide +kernel
theorem dL_passOn_15 : decode cL_passOn 15 = .ok (.astore 5, 2) := by decide +kernel
theorem dL_passOn_17 : decode cL_passOn 17 = .ok (.iconst 1, 1) := by decide +kernel
theorem dL_passOn_18 : decode cL_passOn 18 = .ok (.ireturn, 1) := by decide +kernel
theorem dL_passOn_19 : decode cL_passOn 19 = .ok (.astore 5, 2) := by decide +kernel
theorem dL_passOn_21 : decode cL_passOn 21 = .ok (.iconst 2, 1) := by decide +kernel
theorem dL_passOn_22 : decode cL_passOn 22 = .ok (.ireturn, 1) := by decide +kernel
theorem dL_passOn_23 : decode cL_passOn 23 = .ok (.astore 5, 2) := by decide +kernel
theorem dL_passOn_25 : decode cL_passOn 25 = .ok (.iconst 3, 1) := by decide +kernel
theorem dL_passOn_26 : decode cL_passOn 26 = .ok (.ireturn, 1) := by decide +kernel
theorem dL_passOn_27 : decode cL_passOn 27 = .ok (.iconst 0, 1) := by decide +kernel
theorem dL_passOn_28 : decode cL_passOn 28 = .ok (.ireturn, 1) := by decide +kernel
theorem dL_revoke_0 : decode cL_revoke 0 = .ok (.aload 4, 2) := by decide +kernel
theorem dL_revoke_2 : decode cL_revoke 2 = .ok (.iconst 0, 1) := by decide +kernel
theorem dL_revoke_3 : decode cL_revoke 3 = .ok (.aload_n 0, 1) := by decide +kernel
theorem dL_revoke_4 : decode cL_revoke 4 = .ok (.iload_n 1, 1) := by decide +kernel
theorem dL_revoke_5 : decode cL_revoke 5 = .ok (.iload_n 2, 1) := by decide +kernel
theorem dL_revoke_6 : decode cL_revoke 6 = .ok (.iload_n 3, 1) := by decide +kernel
theorem dL_revoke_7 : decode cL_revoke 7 = .ok (.invokevirtual 40, 3) := by decide +kernel
theorem dL_revoke_10 : decode cL_revoke 10 = .ok (.i2l, 1) := by decide +kernel
theorem dL_revoke_11 : decode cL_revoke 11 = .ok (.lastore, 1) := by decide +kernel
theorem dL_revoke_12 : decode cL_revoke 12 = .ok (.goto 15, 3) := by decide +kernel
theorem dL_revoke_15 : decode cL_revoke 15 = .ok (.astore 5, 2) := by decide +kernel
theorem dL_revoke_17 : decode cL_revoke 17 = .ok (.iconst 1, 1) := by decide +kernel
theorem dL_revoke_18 : decode cL_revoke 18 = .ok (.ireturn, 1) := by decide +kernel
theorem dL_revoke_19 : decode cL_revoke 19 = .ok (.astore 5, 2) := by decide +kernel
theorem dL_revoke_21 : decode cL_revoke 21 = .ok (.iconst 2, 1) := by decide +kernel
theorem dL_revoke_22 : decode cL_revoke 22 = .ok (.ireturn, 1) := by decide +kernel
theorem dL_revoke_23 : decode cL_revoke 23 = .ok (.astore 5, 2) := by decide +kernel
theorem dL_revoke_25 : decode cL_revoke 25 = .ok (.iconst 3, 1) := by decide +kernel
theorem dL_revoke_26 : decode cL_revoke 26 = .ok (.ireturn, 1) := by decide +kernel
theorem dL_revoke_27 : decode cL_revoke 27 = .ok (.iconst 0, 1) := by decide +kernel
theorem dL_revoke_28 : decode cL_revoke 28 = .ok (.ireturn, 1) := by decide +kernel
theorem dL_depute_0 : decode cL_depute 0 = .ok (.aload 4, 2) := by decide +kernel
theorem dL_depute_2 : decode cL_depute 2 = .ok (.iconst 0, 1) := by decide +kernel
theorem dL_depute_3 : decode cL_depute 3 = .ok (.aload_n 0, 1) := by decide +kernel
theorem dL_depute_4 : decode cL_depute 4 = .ok (.iload_n 1, 1) := by decide +kernel
theorem dL_depute_5 : decode cL_depute 5 = .ok (.iload_n 2, 1) := by decide +kernel
theorem dL_depute_6 : decode cL_depute 6 = .ok (.iload_n 3, 1) := by decide +kernel
theorem dL_depute_7 : decode cL_depute 7 = .ok (.invokevirtual 43, 3) := by decide +kernel
theorem dL_depute_10 : decode cL_depute 10 = .ok (.i2l, 1) := by decide +kernel
theorem dL_depute_11 : decode cL_depute 11 = .ok (.lastore, 1) := by decide +kernel
theorem dL_depute_12 : decode cL_depute 12 = .ok (.goto 15, 3) := by decide +kernel
theorem dL_depute_15 : decode cL_depute 15 = .ok (.astore 5, 2) := by decide +kernel
theorem dL_depute_17 : decode cL_depute 17 = .ok (.iconst 1, 1) := by decide +kernel
theorem dL_depute_18 : decode cL_depute 18 = .ok (.ireturn, 1) := by decide +kernel
theorem dL_depute_19 : decode cL_depute 19 = .ok (.astore 5, 2) := by decide +kernel
theorem dL_depute_21 : decode cL_depute 21 = .ok (.iconst 2, 1) := by decide +kernel
theorem dL_depute_22 : decode cL_depute 22 = .ok (.ireturn, 1) := by decide +kernel
theorem dL_depute_23 : decode cL_depute 23 = .ok (.astore 5, 2) := by decide +kernel
theorem dL_depute_25 : decode cL_depute 25 = .ok (.iconst 3, 1) := by decide +kernel
theorem dL_depute_26 : decode cL_depute 26 = .ok (.ireturn, 1) := by decide +kernel
theorem dL_depute_27 : decode cL_depute 27 = .ok (.iconst 0, 1) := by decide +kernel
theorem dL_depute_28 : decode cL_depute 28 = .ok (.ireturn, 1) := by decide +kernel
theorem dL_prepare_0 : decode cL_prepare 0 = .ok (.aload_n 0, 1) := by decide +kernel
theorem dL_prepare_1 : decode cL_prepare 1 = .ok (.iload_n 1, 1) := by decide +kernel
theorem dL_prepare_2 : decode cL_prepare 2 = .ok (.iload_n 2, 1) := by decide +kernel
theorem dL_prepare_3 : decode cL_prepare 3 = .ok (.invokevirtual 46, 3) := by decide +kernel
theorem dL_prepare_6 : decode cL_prepare 6 = .ok (.goto 6, 3) := by decide +kernel
theorem dL_prepare_9 : decode cL_prepare 9 = .ok (.astore_n 3, 1) := by decide +kernel
theorem dL_prepare_10 : decode cL_prepare 10 = .ok (.iconst 1, 1) := by decide +kernel
theorem dL_prepare_11 : decode cL_prepare 11 = .ok (.ireturn, 1) := by decide +kernel
theorem dL_prepare_12 : decode cL_prepare 12 = .ok (.iconst 0, 1) := by decide +kernel
theorem dL_prepare_13 : decode cL_prepare 13 = .ok (.ireturn, 1) := by decide +kernel
theorem dL_act_0 : decode cL_act 0 = .ok (.aload 5, 2) := by decide +kernel
theorem dL_act_2 : decode cL_act 2 = .ok (.iconst 0, 1) := by decide +kernel
theorem dL_act_3 : decode cL_act 3 = .ok (.aload_n 0, 1) := by decide +kernel
theorem dL_act_4 : decode cL_act 4 = .ok (.iload_n 1, 1) := by decide +kernel
theorem dL_act_5 : decode cL_act 5 = .ok (.iload_n 2, 1) := by decide +kernel
theorem dL_act_6 : decode cL_act 6 = .ok (.iload_n 3, 1) := by decide +kernel
theorem dL_act_7 : decode cL_act 7 = .ok (.iload 4, 2) := by decide +kernel
theorem dL_act_9 : decode cL_act 9 = .ok (.invokevirtual 50, 3) := by decide +kernel
theorem dL_act_12 : decode cL_act 12 = .ok (.i2l, 1) := by decide +kernel
theorem dL_act_13 : decode cL_act 13 = .ok (.lastore, 1) := by decide +kernel
theorem dL_act_14 : decode cL_act 14 = .ok (.goto 15, 3) := by decide +kernel
theorem dL_act_17 : decode cL_act 17 = .ok (.astore 6, 2) := by decide +kernel
theorem dL_act_19 : decode cL_act 19 = .ok (.iconst 1, 1) := by decide +kernel
theorem dL_act_20 : decode cL_act 20 = .ok (.ireturn, 1) := by decide +kernel
theorem dL_act_21 : decode cL_act 21 = .ok (.astore 6, 2) := by decide +kernel
theorem dL_act_23 : decode cL_act 23 = .ok (.iconst 2, 1) := by decide +kernel
theorem dL_act_24 : decode cL_act 24 = .ok (.ireturn, 1) := by decide +kernel
theorem dL_act_25 : decode cL_act 25 = .ok (.astore 6, 2) := by decide +kernel
theorem dL_act_27 : decode cL_act 27 = .ok (.iconst 3, 1) := by decide +kernel
theorem dL_act_28 : decode cL_act 28 = .ok (.ireturn, 1) := by decide +kernel
theorem dL_act_29 : decode cL_act 29 = .ok (.iconst 0, 1) := by decide +kernel
theorem dL_act_30 : decode cL_act 30 = .ok (.ireturn, 1) := by decide +kernel
theorem dL_tamper_0 : decode cL_tamper 0 = .ok (.aload 4, 2) := by decide +kernel
theorem dL_tamper_2 : decode cL_tamper 2 = .ok (.iconst 0, 1) := by decide +kernel
theorem dL_tamper_3 : decode cL_tamper 3 = .ok (.aload_n 0, 1) := by decide +kernel
theorem dL_tamper_4 : decode cL_tamper 4 = .ok (.iload_n 1, 1) := by decide +kernel
theorem dL_tamper_5 : decode cL_tamper 5 = .ok (.iload_n 2, 1) := by decide +kernel
theorem dL_tamper_6 : decode cL_tamper 6 = .ok (.iload_n 3, 1) := by decide +kernel
theorem dL_tamper_7 : decode cL_tamper 7 = .ok (.invokevirtual 54, 3) := by decide +kernel
theorem dL_tamper_10 : decode cL_tamper 10 = .ok (.i2l, 1) := by decide +kernel
theorem dL_tamper_11 : decode cL_tamper 11 = .ok (.lastore, 1) := by decide +kernel
theorem dL_tamper_12 : decode cL_tamper 12 = .ok (.goto 11, 3) := by decide +kernel
theorem dL_tamper_15 : decode cL_tamper 15 = .ok (.astore 5, 2) := by decide +kernel
theorem dL_tamper_17 : decode cL_tamper 17 = .ok (.iconst 1, 1) := by decide +kernel
theorem dL_tamper_18 : decode cL_tamper 18 = .ok (.ireturn, 1) := by decide +kernel
theorem dL_tamper_19 : decode cL_tamper 19 = .ok (.astore 5, 2) := by decide +kernel
theorem dL_tamper_21 : decode cL_tamper 21 = .ok (.iconst 2, 1) := by decide +kernel
theorem dL_tamper_22 : decode cL_tamper 22 = .ok (.ireturn, 1) := by decide +kernel
theorem dL_tamper_23 : decode cL_tamper 23 = .ok (.iconst 0, 1) := by decide +kernel
theorem dL_tamper_24 : decode cL_tamper 24 = .ok (.ireturn, 1) := by decide +kernel
theorem dL_copy_0 : decode cL_copy 0 = .ok (.aload 5, 2) := by decide +kernel
theorem dL_copy_2 : decode cL_copy 2 = .ok (.iconst 0, 1) := by decide +kernel
theorem dL_copy_3 : decode cL_copy 3 = .ok (.aload_n 0, 1) := by decide +kernel
theorem dL_copy_4 : decode cL_copy 4 = .ok (.iload_n 1, 1) := by decide +kernel
theorem dL_copy_5 : decode cL_copy 5 = .ok (.iload_n 2, 1) := by decide +kernel
theorem dL_copy_6 : decode cL_copy 6 = .ok (.iload_n 3, 1) := by decide +kernel
theorem dL_copy_7 : decode cL_copy 7 = .ok (.iload 4, 2) := by decide +kernel
theorem dL_copy_9 : decode cL_copy 9 = .ok (.invokevirtual 57, 3) := by decide +kernel
theorem dL_copy_12 : decode cL_copy 12 = .ok (.i2l, 1) := by decide +kernel
theorem dL_copy_13 : decode cL_copy 13 = .ok (.lastore, 1) := by decide +kernel
theorem dL_copy_14 : decode cL_copy 14 = .ok (.goto 15, 3) := by decide +kernel
theorem dL_copy_17 : decode cL_copy 17 = .ok (.astore 6, 2) := by decide +kernel
theorem dL_copy_19 : decode cL_copy 19 = .ok (.iconst 1, 1) := by decide +kernel
theorem dL_copy_20 : decode cL_copy 20 = .ok (.ireturn, 1) := by decide +kernel
theorem dL_copy_21 : decode cL_copy 21 = .ok (.astore 6, 2) := by decide +kernel
theorem dL_copy_23 : decode cL_copy 23 = .ok (.iconst 2, 1) := by decide +kernel
theorem dL_copy_24 : decode cL_copy 24 = .ok (.ireturn, 1) := by decide +kernel
theorem dL_copy_25 : decode cL_copy 25 = .ok (.astore 6, 2) := by decide +kernel
theorem dL_copy_27 : decode cL_copy 27 = .ok (.iconst 3, 1) := by decide +kernel
theorem dL_copy_28 : decode cL_copy 28 = .ok (.ireturn, 1) := by decide +kernel
theorem dL_copy_29 : decode cL_copy 29 = .ok (.iconst 0, 1) := by decide +kernel
theorem dL_copy_30 : decode cL_copy 30 = .ok (.ireturn, 1) := by decide +kernel
theorem dL_forge_0 : decode cL_forge 0 = .ok (.aload 5, 2) := by decide +kernel
theorem dL_forge_2 : decode cL_forge 2 = .ok (.iconst 0, 1) := by decide +kernel
theorem dL_forge_3 : decode cL_forge 3 = .ok (.aload_n 0, 1) := by decide +kernel
theorem dL_forge_4 : decode cL_forge 4 = .ok (.iload_n 1, 1) := by decide +kernel
theorem dL_forge_5 : decode cL_forge 5 = .ok (.iload_n 2, 1) := by decide +kernel
theorem dL_forge_6 : decode cL_forge 6 = .ok (.iload_n 3, 1) := by decide +kernel
theorem dL_forge_7 : decode cL_forge 7 = .ok (.iload 4, 2) := by decide +kernel
theorem dL_forge_9 : decode cL_forge 9 = .ok (.invokevirtual 60, 3) := by decide +kernel
theorem dL_forge_12 : decode cL_forge 12 = .ok (.i2l, 1) := by decide +kernel
theorem dL_forge_13 : decode cL_forge 13 = .ok (.lastore, 1) := by decide +kernel
theorem dL_forge_14 : decode cL_forge 14 = .ok (.goto 15, 3) := by decide +kernel
theorem dL_forge_17 : decode cL_forge 17 = .ok (.astore 6, 2) := by decide +kernel
theorem dL_forge_19 : decode cL_forge 19 = .ok (.iconst 1, 1) := by decide +kernel
theorem dL_forge_20 : decode cL_forge 20 = .ok (.ireturn, 1) := by decide +kernel
theorem dL_forge_21 : decode cL_forge 21 = .ok (.astore 6, 2) := by decide +kernel
theorem dL_forge_23 : decode cL_forge 23 = .ok (.iconst 2, 1) := by decide +kernel
theorem dL_forge_24 : decode cL_forge 24 = .ok (.ireturn, 1) := by decide +kernel
theorem dL_forge_25 : decode cL_forge 25 = .ok (.astore 6, 2) := by decide +kernel
theorem dL_forge_27 : decode cL_forge 27 = .ok (.iconst 3, 1) := by decide +kernel
theorem dL_forge_28 : decode cL_forge 28 = .ok (.ireturn, 1) := by decide +kernel
theorem dL_forge_29 : decode cL_forge 29 = .ok (.iconst 0, 1) := by decide +kernel
theorem dL_forge_30 : decode cL_forge 30 = .ok (.ireturn, 1) := by decide +kernel
theorem dL_records_0 : decode cL_records 0 = .ok (.aload_n 2, 1) := by decide +kernel
theorem dL_records_1 : decode cL_records 1 = .ok (.iconst 0, 1) := by decide +kernel
theorem dL_records_2 : decode cL_records 2 = .ok (.aload_n 0, 1) := by decide +kernel
theorem dL_records_3 : decode cL_records 3 = .ok (.iload_n 1, 1) := by decide +kernel
theorem dL_records_4 : decode cL_records 4 = .ok (.invokevirtual 63, 3) := by decide +kernel
theorem dL_records_7 : decode cL_records 7 = .ok (.i2l, 1) := by decide +kernel
theorem dL_records_8 : decode cL_records 8 = .ok (.lastore, 1) := by decide +kernel
theorem dL_records_9 : decode cL_records 9 = .ok (.goto 6, 3) := by decide +kernel
theorem dL_records_12 : decode cL_records 12 = .ok (.astore_n 3, 1) := by decide +kernel
theorem dL_records_13 : decode cL_records 13 = .ok (.iconst 1, 1) := by decide +kernel
theorem dL_records_14 : decode cL_records 14 = .ok (.ireturn, 1) := by decide +kernel
theorem dL_records_15 : decode cL_records 15 = .ok (.iconst 0, 1) := by decide +kernel
theorem dL_records_16 : decode cL_records 16 = .ok (.ireturn, 1) := by decide +kernel
theorem dL_areJoined_0 : decode cL_areJoined 0 = .ok (.aload_n 3, 1) := by decide +kernel
theorem dL_areJoined_1 : decode cL_areJoined 1 = .ok (.iconst 0, 1) := by decide +kernel
theorem dL_areJoined_2 : decode cL_areJoined 2 = .ok (.aload_n 0, 1) := by decide +kernel
theorem dL_areJoined_3 : decode cL_areJoined 3 = .ok (.iload_n 1, 1) := by decide +kernel
theorem dL_areJoined_4 : decode cL_areJoined 4 = .ok (.iload_n 2, 1) := by decide +kernel
theorem dL_areJoined_5 : decode cL_areJoined 5 = .ok (.invokevirtual 66, 3) := by decide +kernel
theorem dL_areJoined_8 : decode cL_areJoined 8 = .ok (.ifCond .eq 7, 3) := by decide +kernel
theorem dL_areJoined_11 : decode cL_areJoined 11 = .ok (.lconst 1, 1) := by decide +kernel
theorem dL_areJoined_12 : decode cL_areJoined 12 = .ok (.goto 4, 3) := by decide +kernel
theorem dL_areJoined_15 : decode cL_areJoined 15 = .ok (.lconst 0, 1) := by decide +kernel
theorem dL_areJoined_16 : decode cL_areJoined 16 = .ok (.lastore, 1) := by decide +kernel
theorem dL_areJoined_17 : decode cL_areJoined 17 = .ok (.goto 7, 3) := by decide +kernel
theorem dL_areJoined_20 : decode cL_areJoined 20 = .ok (.astore 4, 2) := by decide +kernel
theorem dL_areJoined_22 : decode cL_areJoined 22 = .ok (.iconst 1, 1) := by decide +kernel
theorem dL_areJoined_23 : decode cL_areJoined 23 = .ok (.ireturn, 1) := by decide +kernel
theorem dL_areJoined_24 : decode cL_areJoined 24 = .ok (.iconst 0, 1) := by decide +kernel
theorem dL_areJoined_25 : decode cL_areJoined 25 = .ok (.ireturn, 1) := by decide +kernel
theorem dL_came_0 : decode cL_came 0 = .ok (.aload_n 3, 1) := by decide +kernel
theorem dL_came_1 : decode cL_came 1 = .ok (.iconst 0, 1) := by decide +kernel
theorem dL_came_2 : decode cL_came 2 = .ok (.aload_n 0, 1) := by decide +kernel
theorem dL_came_3 : decode cL_came 3 = .ok (.iload_n 1, 1) := by decide +kernel
theorem dL_came_4 : decode cL_came 4 = .ok (.iload_n 2, 1) := by decide +kernel
theorem dL_came_5 : decode cL_came 5 = .ok (.invokevirtual 70, 3) := by decide +kernel
theorem dL_came_8 : decode cL_came 8 = .ok (.i2l, 1) := by decide +kernel
theorem dL_came_9 : decode cL_came 9 = .ok (.lastore, 1) := by decide +kernel
theorem dL_came_10 : decode cL_came 10 = .ok (.goto 7, 3) := by decide +kernel
theorem dL_came_13 : decode cL_came 13 = .ok (.astore 4, 2) := by decide +kernel
theorem dL_came_15 : decode cL_came 15 = .ok (.iconst 1, 1) := by decide +kernel
theorem dL_came_16 : decode cL_came 16 = .ok (.ireturn, 1) := by decide +kernel
theorem dL_came_17 : decode cL_came 17 = .ok (.iconst 0, 1) := by decide +kernel
theorem dL_came_18 : decode cL_came 18 = .ok (.ireturn, 1) := by decide +kernel
theorem dL_cameByLinks_0 : decode cL_cameByLinks 0 = .ok (.aload_n 3, 1) := by decide +kernel
theorem dL_cameByLinks_1 : decode cL_cameByLinks 1 = .ok (.iconst 0, 1) := by decide +kernel
theorem dL_cameByLinks_2 : decode cL_cameByLinks 2 = .ok (.aload_n 0, 1) := by decide +kernel
theorem dL_cameByLinks_3 : decode cL_cameByLinks 3 = .ok (.iload_n 1, 1) := by decide +kernel
theorem dL_cameByLinks_4 : decode cL_cameByLinks 4 = .ok (.iload_n 2, 1) := by decide +kernel
theorem dL_cameByLinks_5 : decode cL_cameByLinks 5 = .ok (.invokevirtual 73, 3) := by decide +kernel
theorem dL_cameByLinks_8 : decode cL_cameByLinks 8 = .ok (.i2l, 1) := by decide +kernel
theorem dL_cameByLinks_9 : decode cL_cameByLinks 9 = .ok (.lastore, 1) := by decide +kernel
theorem dL_cameByLinks_10 : decode cL_cameByLinks 10 = .ok (.goto 7, 3) := by decide +kernel
theorem dL_cameByLinks_13 : decode cL_cameByLinks 13 = .ok (.astore 4, 2) := by decide +kernel
theorem dL_cameByLinks_15 : decode cL_cameByLinks 15 = .ok (.iconst 1, 1) := by decide +kernel
theorem dL_cameByLinks_16 : decode cL_cameByLinks 16 = .ok (.ireturn, 1) := by decide +kernel
theorem dL_cameByLinks_17 : decode cL_cameByLinks 17 = .ok (.iconst 0, 1) := by decide +kernel
theorem dL_cameByLinks_18 : decode cL_cameByLinks 18 = .ok (.ireturn, 1) := by decide +kernel
theorem dL_isRead_0 : decode cL_isRead 0 = .ok (.aload_n 3, 1) := by decide +kernel
theorem dL_isRead_1 : decode cL_isRead 1 = .ok (.iconst 0, 1) := by decide +kernel
theorem dL_isRead_2 : decode cL_isRead 2 = .ok (.aload_n 0, 1) := by decide +kernel
theorem dL_isRead_3 : decode cL_isRead 3 = .ok (.iload_n 1, 1) := by decide +kernel
theorem dL_isRead_4 : decode cL_isRead 4 = .ok (.iload_n 2, 1) := by decide +kernel
theorem dL_isRead_5 : decode cL_isRead 5 = .ok (.invokevirtual 76, 3) := by decide +kernel
theorem dL_isRead_8 : decode cL_isRead 8 = .ok (.ifCond .eq 7, 3) := by decide +kernel
theorem dL_isRead_11 : decode cL_isRead 11 = .ok (.lconst 1, 1) := by decide +kernel
theorem dL_isRead_12 : decode cL_isRead 12 = .ok (.goto 4, 3) := by decide +kernel
theorem dL_isRead_15 : decode cL_isRead 15 = .ok (.lconst 0, 1) := by decide +kernel
theorem dL_isRead_16 : decode cL_isRead 16 = .ok (.lastore, 1) := by decide +kernel
theorem dL_isRead_17 : decode cL_isRead 17 = .ok (.goto 7, 3) := by decide +kernel
theorem dL_isRead_20 : decode cL_isRead 20 = .ok (.astore 4, 2) := by decide +kernel
theorem dL_isRead_22 : decode cL_isRead 22 = .ok (.iconst 1, 1) := by decide +kernel
theorem dL_isRead_23 : decode cL_isRead 23 = .ok (.ireturn, 1) := by decide +kernel
theorem dL_isRead_24 : decode cL_isRead 24 = .ok (.iconst 0, 1) := by decide +kernel
theorem dL_isRead_25 : decode cL_isRead 25 = .ok (.ireturn, 1) := by decide +kernel
theorem dL_mail_0 : decode cL_mail 0 = .ok (.aload_n 2, 1) := by decide +kernel
theorem dL_mail_1 : decode cL_mail 1 = .ok (.iconst 0, 1) := by decide +kernel
theorem dL_mail_2 : decode cL_mail 2 = .ok (.aload_n 0, 1) := by decide +kernel
theorem dL_mail_3 : decode cL_mail 3 = .ok (.iload_n 1, 1) := by decide +kernel
theorem dL_mail_4 : decode cL_mail 4 = .ok (.invokevirtual 79, 3) := by decide +kernel
theorem dL_mail_7 : decode cL_mail 7 = .ok (.i2l, 1) := by decide +kernel
theorem dL_mail_8 : decode cL_mail 8 = .ok (.lastore, 1) := by decide +kernel
theorem dL_mail_9 : decode cL_mail 9 = .ok (.goto 6, 3) := by decide +kernel
theorem dL_mail_12 : decode cL_mail 12 = .ok (.astore_n 3, 1) := by decide +kernel
theorem dL_mail_13 : decode cL_mail 13 = .ok (.iconst 1, 1) := by decide +kernel
theorem dL_mail_14 : decode cL_mail 14 = .ok (.ireturn, 1) := by decide +kernel
theorem dL_mail_15 : decode cL_mail 15 = .ok (.iconst 0, 1) := by decide +kernel
theorem dL_mail_16 : decode cL_mail 16 = .ok (.ireturn, 1) := by decide +kernel
theorem dL_source_0 : decode cL_source 0 = .ok (.aload_n 2, 1) := by decide +kernel
theorem dL_source_1 : decode cL_source 1 = .ok (.iconst 0, 1) := by decide +kernel
theorem dL_source_2 : decode cL_source 2 = .ok (.aload_n 0, 1) := by decide +kernel
theorem dL_source_3 : decode cL_source 3 = .ok (.iload_n 1, 1) := by decide +kernel
theorem dL_source_4 : decode cL_source 4 = .ok (.invokevirtual 82, 3) := by decide +kernel
theorem dL_source_7 : decode cL_source 7 = .ok (.i2l, 1) := by decide +kernel
theorem dL_source_8 : decode cL_source 8 = .ok (.lastore, 1) := by decide +kernel
theorem dL_source_9 : decode cL_source 9 = .ok (.goto 6, 3) := by decide +kernel
theorem dL_source_12 : decode cL_source 12 = .ok (.astore_n 3, 1) := by decide +kernel
theorem dL_source_13 : decode cL_source 13 = .ok (.iconst 1, 1) := by decide +kernel
theorem dL_source_14 : decode cL_source 14 = .ok (.ireturn, 1) := by decide +kernel
theorem dL_source_15 : decode cL_source 15 = .ok (.iconst 0, 1) := by decide +kernel
theorem dL_source_16 : decode cL_source 16 = .ok (.ireturn, 1) := by decide +kernel
theorem dL_holder_0 : decode cL_holder 0 = .ok (.aload_n 2, 1) := by decide +kernel
theorem dL_holder_1 : decode cL_holder 1 = .ok (.iconst 0, 1) := by decide +kernel
theorem dL_holder_2 : decode cL_holder 2 = .ok (.aload_n 0, 1) := by decide +kernel
theorem dL_holder_3 : decode cL_holder 3 = .ok (.iload_n 1, 1) := by decide +kernel
theorem dL_holder_4 : decode cL_holder 4 = .ok (.invokevirtual 85, 3) := by decide +kernel
theorem dL_holder_7 : decode cL_holder 7 = .ok (.i2l, 1) := by decide +kernel
theorem dL_holder_8 : decode cL_holder 8 = .ok (.lastore, 1) := by decide +kernel
theorem dL_holder_9 : decode cL_holder 9 = .ok (.goto 6, 3) := by decide +kernel
theorem dL_holder_12 : decode cL_holder 12 = .ok (.astore_n 3, 1) := by decide +kernel
theorem dL_holder_13 : decode cL_holder 13 = .ok (.iconst 1, 1) := by decide +kernel
theorem dL_holder_14 : decode cL_holder 14 = .ok (.ireturn, 1) := by decide +kernel
theorem dL_holder_15 : decode cL_holder 15 = .ok (.iconst 0, 1) := by decide +kernel
theorem dL_holder_16 : decode cL_holder 16 = .ok (.ireturn, 1) := by decide +kernel
theorem dL_isGood_0 : decode cL_isGood 0 = .ok (.aload_n 3, 1) := by decide +kernel
theorem dL_isGood_1 : decode cL_isGood 1 = .ok (.iconst 0, 1) := by decide +kernel
theorem dL_isGood_2 : decode cL_isGood 2 = .ok (.aload_n 0, 1) := by decide +kernel
theorem dL_isGood_3 : decode cL_isGood 3 = .ok (.iload_n 1, 1) := by decide +kernel
theorem dL_isGood_4 : decode cL_isGood 4 = .ok (.iload_n 2, 1) := by decide +kernel
theorem dL_isGood_5 : decode cL_isGood 5 = .ok (.invokevirtual 88, 3) := by decide +kernel
theorem dL_isGood_8 : decode cL_isGood 8 = .ok (.ifCond .eq 7, 3) := by decide +kernel
theorem dL_isGood_11 : decode cL_isGood 11 = .ok (.lconst 1, 1) := by decide +kernel
theorem dL_isGood_12 : decode cL_isGood 12 = .ok (.goto 4, 3) := by decide +kernel
theorem dL_isGood_15 : decode cL_isGood 15 = .ok (.lconst 0, 1) := by decide +kernel
theorem dL_isGood_16 : decode cL_isGood 16 = .ok (.lastore, 1) := by decide +kernel
theorem dL_isGood_17 : decode cL_isGood 17 = .ok (.goto 7, 3) := by decide +kernel
theorem dL_isGood_20 : decode cL_isGood 20 = .ok (.astore 4, 2) := by decide +kernel
theorem dL_isGood_22 : decode cL_isGood 22 = .ok (.iconst 1, 1) := by decide +kernel
theorem dL_isGood_23 : decode cL_isGood 23 = .ok (.ireturn, 1) := by decide +kernel
theorem dL_isGood_24 : decode cL_isGood 24 = .ok (.iconst 0, 1) := by decide +kernel
theorem dL_isGood_25 : decode cL_isGood 25 = .ok (.ireturn, 1) := by decide +kernel
theorem dL_done_0 : decode cL_done 0 = .ok (.aload_n 3, 1) := by decide +kernel
theorem dL_done_1 : decode cL_done 1 = .ok (.iconst 0, 1) := by decide +kernel
theorem dL_done_2 : decode cL_done 2 = .ok (.aload_n 0, 1) := by decide +kernel
theorem dL_done_3 : decode cL_done 3 = .ok (.iload_n 1, 1) := by decide +kernel
theorem dL_done_4 : decode cL_done 4 = .ok (.iload_n 2, 1) := by decide +kernel
theorem dL_done_5 : decode cL_done 5 = .ok (.invokevirtual 91, 3) := by decide +kernel
theorem dL_done_8 : decode cL_done 8 = .ok (.i2l, 1) := by decide +kernel
theorem dL_done_9 : decode cL_done 9 = .ok (.lastore, 1) := by decide +kernel
theorem dL_done_10 : decode cL_done 10 = .ok (.goto 7, 3) := by decide +kernel
theorem dL_done_13 : decode cL_done 13 = .ok (.astore 4, 2) := by decide +kernel
theorem dL_done_15 : decode cL_done 15 = .ok (.iconst 1, 1) := by decide +kernel
theorem dL_done_16 : decode cL_done 16 = .ok (.ireturn, 1) := by decide +kernel
theorem dL_done_17 : decode cL_done 17 = .ok (.iconst 0, 1) := by decide +kernel
theorem dL_done_18 : decode cL_done 18 = .ok (.ireturn, 1) := by decide +kernel
theorem dL_beyond_0 : decode cL_beyond 0 = .ok (.aload_n 2, 1) := by decide +kernel
theorem dL_beyond_1 : decode cL_beyond 1 = .ok (.iconst 0, 1) := by decide +kernel
theorem dL_beyond_2 : decode cL_beyond 2 = .ok (.aload_n 0, 1) := by decide +kernel
theorem dL_beyond_3 : decode cL_beyond 3 = .ok (.iload_n 1, 1) := by decide +kernel
theorem dL_beyond_4 : decode cL_beyond 4 = .ok (.invokevirtual 94, 3) := by decide +kernel
theorem dL_beyond_7 : decode cL_beyond 7 = .ok (.i2l, 1) := by decide +kernel
theorem dL_beyond_8 : decode cL_beyond 8 = .ok (.lastore, 1) := by decide +kernel
theorem dL_beyond_9 : decode cL_beyond 9 = .ok (.goto 6, 3) := by decide +kernel
theorem dL_beyond_12 : decode cL_beyond 12 = .ok (.astore_n 3, 1) := by decide +kernel
theorem dL_beyond_13 : decode cL_beyond 13 = .ok (.iconst 1, 1) := by decide +kernel
theorem dL_beyond_14 : decode cL_beyond 14 = .ok (.ireturn, 1) := by decide +kernel
theorem dL_beyond_15 : decode cL_beyond 15 = .ok (.iconst 0, 1) := by decide +kernel
theorem dL_beyond_16 : decode cL_beyond 16 = .ok (.ireturn, 1) := by decide +kernel
theorem dL_against_0 : decode cL_against 0 = .ok (.aload 5, 2) := by decide +kernel
theorem dL_against_2 : decode cL_against 2 = .ok (.iconst 0, 1) := by decide +kernel
theorem dL_against_3 : decode cL_against 3 = .ok (.aload_n 0, 1) := by decide +kernel
theorem dL_against_4 : decode cL_against 4 = .ok (.iload_n 1, 1) := by decide +kernel
theorem dL_against_5 : decode cL_against 5 = .ok (.iload_n 2, 1) := by decide +kernel
theorem dL_against_6 : decode cL_against 6 = .ok (.iload_n 3, 1) := by decide +kernel
theorem dL_against_7 : decode cL_against 7 = .ok (.iload 4, 2) := by decide +kernel
theorem dL_against_9 : decode cL_against 9 = .ok (.invokevirtual 97, 3) := by decide +kernel
theorem dL_against_12 : decode cL_against 12 = .ok (.i2l, 1) := by decide +kernel
theorem dL_against_13 : decode cL_against 13 = .ok (.lastore, 1) := by decide +kernel
theorem dL_against_14 : decode cL_against 14 = .ok (.goto 11, 3) := by decide +kernel
theorem dL_against_17 : decode cL_against 17 = .ok (.astore 6, 2) := by decide +kernel
theorem dL_against_19 : decode cL_against 19 = .ok (.iconst 1, 1) := by decide +kernel
theorem dL_against_20 : decode cL_against 20 = .ok (.ireturn, 1) := by decide +kernel
theorem dL_against_21 : decode cL_against 21 = .ok (.astore 6, 2) := by decide +kernel
theorem dL_against_23 : decode cL_against 23 = .ok (.iconst 2, 1) := by decide +kernel
theorem dL_against_24 : decode cL_against 24 = .ok (.ireturn, 1) := by decide +kernel
theorem dL_against_25 : decode cL_against 25 = .ok (.iconst 0, 1) := by decide +kernel
theorem dL_against_26 : decode cL_against 26 = .ok (.ireturn, 1) := by decide +kernel
theorem dL_choices_0 : decode cL_choices 0 = .ok (.aload 4, 2) := by decide +kernel
theorem dL_choices_2 : decode cL_choices 2 = .ok (.iconst 0, 1) := by decide +kernel
theorem dL_choices_3 : decode cL_choices 3 = .ok (.aload_n 0, 1) := by decide +kernel
theorem dL_choices_4 : decode cL_choices 4 = .ok (.iload_n 1, 1) := by decide +kernel
theorem dL_choices_5 : decode cL_choices 5 = .ok (.iload_n 2, 1) := by decide +kernel
theorem dL_choices_6 : decode cL_choices 6 = .ok (.iload_n 3, 1) := by decide +kernel
theorem dL_choices_7 : decode cL_choices 7 = .ok (.invokevirtual 100, 3) := by decide +kernel
theorem dL_choices_10 : decode cL_choices 10 = .ok (.i2l, 1) := by decide +kernel
theorem dL_choices_11 : decode cL_choices 11 = .ok (.lastore, 1) := by decide +kernel
theorem dL_choices_12 : decode cL_choices 12 = .ok (.goto 11, 3) := by decide +kernel
theorem dL_choices_15 : decode cL_choices 15 = .ok (.astore 5, 2) := by decide +kernel
theorem dL_choices_17 : decode cL_choices 17 = .ok (.iconst 1, 1) := by decide +kernel
theorem dL_choices_18 : decode cL_choices 18 = .ok (.ireturn, 1) := by decide +kernel
theorem dL_choices_19 : decode cL_choices 19 = .ok (.astore 5, 2) := by decide +kernel
theorem dL_choices_21 : decode cL_choices 21 = .ok (.iconst 2, 1) := by decide +kernel
theorem dL_choices_22 : decode cL_choices 22 = .ok (.ireturn, 1) := by decide +kernel
theorem dL_choices_23 : decode cL_choices 23 = .ok (.iconst 0, 1) := by decide +kernel
theorem dL_choices_24 : decode cL_choices 24 = .ok (.ireturn, 1) := by decide +kernel
theorem dL_stands_0 : decode cL_stands 0 = .ok (.aload_n 3, 1) := by decide +kernel
theorem dL_stands_1 : decode cL_stands 1 = .ok (.iconst 0, 1) := by decide +kernel
theorem dL_stands_2 : decode cL_stands 2 = .ok (.aload_n 0, 1) := by decide +kernel
theorem dL_stands_3 : decode cL_stands 3 = .ok (.iload_n 1, 1) := by decide +kernel
theorem dL_stands_4 : decode cL_stands 4 = .ok (.iload_n 2, 1) := by decide +kernel
theorem dL_stands_5 : decode cL_stands 5 = .ok (.invokevirtual 103, 3) := by decide +kernel
theorem dL_stands_8 : decode cL_stands 8 = .ok (.ifCond .eq 7, 3) := by decide +kernel
theorem dL_stands_11 : decode cL_stands 11 = .ok (.lconst 1, 1) := by decide +kernel
theorem dL_stands_12 : decode cL_stands 12 = .ok (.goto 4, 3) := by decide +kernel
theorem dL_stands_15 : decode cL_stands 15 = .ok (.lconst 0, 1) := by decide +kernel
theorem dL_stands_16 : decode cL_stands 16 = .ok (.lastore, 1) := by decide +kernel
theorem dL_stands_17 : decode cL_stands 17 = .ok (.goto 7, 3) := by decide +kernel
theorem dL_stands_20 : decode cL_stands 20 = .ok (.astore 4, 2) := by decide +kernel
theorem dL_stands_22 : decode cL_stands 22 = .ok (.iconst 1, 1) := by decide +kernel
theorem dL_stands_23 : decode cL_stands 23 = .ok (.ireturn, 1) := by decide +kernel
theorem dL_stands_24 : decode cL_stands 24 = .ok (.iconst 0, 1) := by decide +kernel
theorem dL_stands_25 : decode cL_stands 25 = .ok (.ireturn, 1) := by decide +kernel
theorem dL_fault_0 : decode cL_fault 0 = .ok (.aload_n 3, 1) := by decide +kernel
theorem dL_fault_1 : decode cL_fault 1 = .ok (.iconst 0, 1) := by decide +kernel
theorem dL_fault_2 : decode cL_fault 2 = .ok (.aload_n 0, 1) := by decide +kernel
theorem dL_fault_3 : decode cL_fault 3 = .ok (.iload_n 1, 1) := by decide +kernel
theorem dL_fault_4 : decode cL_fault 4 = .ok (.iload_n 2, 1) := by decide +kernel
theorem dL_fault_5 : decode cL_fault 5 = .ok (.invokevirtual 106, 3) := by decide +kernel
theorem dL_fault_8 : decode cL_fault 8 = .ok (.i2l, 1) := by decide +kernel
theorem dL_fault_9 : decode cL_fault 9 = .ok (.lastore, 1) := by decide +kernel
theorem dL_fault_10 : decode cL_fault 10 = .ok (.goto 7, 3) := by decide +kernel
theorem dL_fault_13 : decode cL_fault 13 = .ok (.astore 4, 2) := by decide +kernel
theorem dL_fault_15 : decode cL_fault 15 = .ok (.iconst 1, 1) := by decide +kernel
theorem dL_fault_16 : decode cL_fault 16 = .ok (.ireturn, 1) := by decide +kernel
theorem dL_fault_17 : decode cL_fault 17 = .ok (.iconst 0, 1) := by decide +kernel
theorem dL_fault_18 : decode cL_fault 18 = .ok (.ireturn, 1) := by decide +kernel
theorem dL_pieceOf_0 : decode cL_pieceOf 0 = .ok (.aload_n 3, 1) := by decide +kernel
theorem dL_pieceOf_1 : decode cL_pieceOf 1 = .ok (.iconst 0, 1) := by decide +kernel
theorem dL_pieceOf_2 : decode cL_pieceOf 2 = .ok (.aload_n 0, 1) := by decide +kernel
theorem dL_pieceOf_3 : decode cL_pieceOf 3 = .ok (.iload_n 1, 1) := by decide +kernel
theorem dL_pieceOf_4 : decode cL_pieceOf 4 = .ok (.iload_n 2, 1) := by decide +kernel
theorem dL_pieceOf_5 : decode cL_pieceOf 5 = .ok (.invokevirtual 109, 3) := by decide +kernel
theorem dL_pieceOf_8 : decode cL_pieceOf 8 = .ok (.i2l, 1) := by decide +kernel
theorem dL_pieceOf_9 : decode cL_pieceOf 9 = .ok (.lastore, 1) := by decide +kernel
theorem dL_pieceOf_10 : decode cL_pieceOf 10 = .ok (.goto 7, 3) := by decide +kernel
theorem dL_pieceOf_13 : decode cL_pieceOf 13 = .ok (.astore 4, 2) := by decide +kernel
theorem dL_pieceOf_15 : decode cL_pieceOf 15 = .ok (.iconst 1, 1) := by decide +kernel
theorem dL_pieceOf_16 : decode cL_pieceOf 16 = .ok (.ireturn, 1) := by decide +kernel
theorem dL_pieceOf_17 : decode cL_pieceOf 17 = .ok (.iconst 0, 1) := by decide +kernel
theorem dL_pieceOf_18 : decode cL_pieceOf 18 = .ok (.ireturn, 1) := by decide +kernel
theorem dL_part_0 : decode cL_part 0 = .ok (.aload 4, 2) := by decide +kernel
theorem dL_part_2 : decode cL_part 2 = .ok (.iconst 0, 1) := by decide +kernel
theorem dL_part_3 : decode cL_part 3 = .ok (.aload_n 0, 1) := by decide +kernel
theorem dL_part_4 : decode cL_part 4 = .ok (.iload_n 1, 1) := by decide +kernel
theorem dL_part_5 : decode cL_part 5 = .ok (.iload_n 2, 1) := by decide +kernel
theorem dL_part_6 : decode cL_part 6 = .ok (.iload_n 3, 1) := by decide +kernel
theorem dL_part_7 : decode cL_part 7 = .ok (.invokevirtual 112, 3) := by decide +kernel
theorem dL_part_10 : decode cL_part 10 = .ok (.i2l, 1) := by decide +kernel
theorem dL_part_11 : decode cL_part 11 = .ok (.lastore, 1) := by decide +kernel
theorem dL_part_12 : decode cL_part 12 = .ok (.goto 7, 3) := by decide +kernel
theorem dL_part_15 : decode cL_part 15 = .ok (.astore 5, 2) := by decide +kernel
theorem dL_part_17 : decode cL_part 17 = .ok (.iconst 1, 1) := by decide +kernel
theorem dL_part_18 : decode cL_part 18 = .ok (.ireturn, 1) := by decide +kernel
theorem dL_part_19 : decode cL_part 19 = .ok (.iconst 0, 1) := by decide +kernel
theorem dL_part_20 : decode cL_part 20 = .ok (.ireturn, 1) := by decide +kernel
theorem dL_seal_0 : decode cL_seal 0 = .ok (.aload_n 3, 1) := by decide +kernel
theorem dL_seal_1 : decode cL_seal 1 = .ok (.iconst 0, 1) := by decide +kernel
theorem dL_seal_2 : decode cL_seal 2 = .ok (.aload_n 0, 1) := by decide +kernel
theorem dL_seal_3 : decode cL_seal 3 = .ok (.iload_n 1, 1) := by decide +kernel
theorem dL_seal_4 : decode cL_seal 4 = .ok (.iload_n 2, 1) := by decide +kernel
theorem dL_seal_5 : decode cL_seal 5 = .ok (.invokevirtual 115, 3) := by decide +kernel
theorem dL_seal_8 : decode cL_seal 8 = .ok (.i2l, 1) := by decide +kernel
theorem dL_seal_9 : decode cL_seal 9 = .ok (.lastore, 1) := by decide +kernel
theorem dL_seal_10 : decode cL_seal 10 = .ok (.goto 7, 3) := by decide +kernel
theorem dL_seal_13 : decode cL_seal 13 = .ok (.astore 4, 2) := by decide +kernel
theorem dL_seal_15 : decode cL_seal 15 = .ok (.iconst 1, 1) := by decide +kernel
theorem dL_seal_16 : decode cL_seal 16 = .ok (.ireturn, 1) := by decide +kernel
theorem dL_seal_17 : decode cL_seal 17 = .ok (.iconst 0, 1) := by decide +kernel
theorem dL_seal_18 : decode cL_seal 18 = .ok (.ireturn, 1) := by decide +kernel
theorem dL_broken_0 : decode cL_broken 0 = .ok (.aload_n 2, 1) := by decide +kernel
theorem dL_broken_1 : decode cL_broken 1 = .ok (.iconst 0, 1) := by decide +kernel
theorem dL_broken_2 : decode cL_broken 2 = .ok (.aload_n 0, 1) := by decide +kernel
theorem dL_broken_3 : decode cL_broken 3 = .ok (.iload_n 1, 1) := by decide +kernel
theorem dL_broken_4 : decode cL_broken 4 = .ok (.invokevirtual 118, 3) := by decide +kernel
theorem dL_broken_7 : decode cL_broken 7 = .ok (.i2l, 1) := by decide +kernel
theorem dL_broken_8 : decode cL_broken 8 = .ok (.lastore, 1) := by decide +kernel
theorem dL_broken_9 : decode cL_broken 9 = .ok (.goto 6, 3) := by decide +kernel
theorem dL_broken_12 : decode cL_broken 12 = .ok (.astore_n 3, 1) := by decide +kernel
theorem dL_broken_13 : decode cL_broken 13 = .ok (.iconst 1, 1) := by decide +kernel
theorem dL_broken_14 : decode cL_broken 14 = .ok (.ireturn, 1) := by decide +kernel
theorem dL_broken_15 : decode cL_broken 15 = .ok (.iconst 0, 1) := by decide +kernel
theorem dL_broken_16 : decode cL_broken 16 = .ok (.ireturn, 1) := by decide +kernel
theorem dL_size_0 : decode cL_size 0 = .ok (.aload_n 2, 1) := by decide +kernel
theorem dL_size_1 : decode cL_size 1 = .ok (.iconst 0, 1) := by decide +kernel
theorem dL_size_2 : decode cL_size 2 = .ok (.aload_n 0, 1) := by decide +kernel
theorem dL_size_3 : decode cL_size 3 = .ok (.iload_n 1, 1) := by decide +kernel
theorem dL_size_4 : decode cL_size 4 = .ok (.invokevirtual 121, 3) := by decide +kernel
theorem dL_size_7 : decode cL_size 7 = .ok (.i2l, 1) := by decide +kernel
theorem dL_size_8 : decode cL_size 8 = .ok (.lastore, 1) := by decide +kernel
theorem dL_size_9 : decode cL_size 9 = .ok (.goto 6, 3) := by decide +kernel
theorem dL_size_12 : decode cL_size 12 = .ok (.astore_n 3, 1) := by decide +kernel
theorem dL_size_13 : decode cL_size 13 = .ok (.iconst 1, 1) := by decide +kernel
theorem dL_size_14 : decode cL_size 14 = .ok (.ireturn, 1) := by decide +kernel
theorem dL_size_15 : decode cL_size 15 = .ok (.iconst 0, 1) := by decide +kernel
theorem dL_size_16 : decode cL_size 16 = .ok (.ireturn, 1) := by decide +kernel
theorem dL_copied_0 : decode cL_copied 0 = .ok (.aload 4, 2) := by decide +kernel
theorem dL_copied_2 : decode cL_copied 2 = .ok (.iconst 0, 1) := by decide +kernel
theorem dL_copied_3 : decode cL_copied 3 = .ok (.aload_n 0, 1) := by decide +kernel
theorem dL_copied_4 : decode cL_copied 4 = .ok (.iload_n 1, 1) := by decide +kernel
theorem dL_copied_5 : decode cL_copied 5 = .ok (.iload_n 2, 1) := by decide +kernel
theorem dL_copied_6 : decode cL_copied 6 = .ok (.iload_n 3, 1) := by decide +kernel
theorem dL_copied_7 : decode cL_copied 7 = .ok (.invokevirtual 124, 3) := by decide +kernel
theorem dL_copied_10 : decode cL_copied 10 = .ok (.i2l, 1) := by decide +kernel
theorem dL_copied_11 : decode cL_copied 11 = .ok (.lastore, 1) := by decide +kernel
theorem dL_copied_12 : decode cL_copied 12 = .ok (.goto 7, 3) := by decide +kernel
theorem dL_copied_15 : decode cL_copied 15 = .ok (.astore 5, 2) := by decide +kernel
theorem dL_copied_17 : decode cL_copied 17 = .ok (.iconst 1, 1) := by decide +kernel
theorem dL_copied_18 : decode cL_copied 18 = .ok (.ireturn, 1) := by decide +kernel
theorem dL_copied_19 : decode cL_copied 19 = .ok (.iconst 0, 1) := by decide +kernel
theorem dL_copied_20 : decode cL_copied 20 = .ok (.ireturn, 1) := by decide +kernel
theorem dL_brokenCopy_0 : decode cL_brokenCopy 0 = .ok (.aload_n 2, 1) := by decide +kernel
theorem dL_brokenCopy_1 : decode cL_brokenCopy 1 = .ok (.iconst 0, 1) := by decide +kernel
theorem dL_brokenCopy_2 : decode cL_brokenCopy 2 = .ok (.aload_n 0, 1) := by decide +kernel
theorem dL_brokenCopy_3 : decode cL_brokenCopy 3 = .ok (.iload_n 1, 1) := by decide +kernel
theorem dL_brokenCopy_4 : decode cL_brokenCopy 4 = .ok (.invokevirtual 127, 3) := by decide +kernel
theorem dL_brokenCopy_7 : decode cL_brokenCopy 7 = .ok (.i2l, 1) := by decide +kernel
theorem dL_brokenCopy_8 : decode cL_brokenCopy 8 = .ok (.lastore, 1) := by decide +kernel
theorem dL_brokenCopy_9 : decode cL_brokenCopy 9 = .ok (.goto 6, 3) := by decide +kernel
theorem dL_brokenCopy_12 : decode cL_brokenCopy 12 = .ok (.astore_n 3, 1) := by decide +kernel
theorem dL_brokenCopy_13 : decode cL_brokenCopy 13 = .ok (.iconst 1, 1) := by decide +kernel
theorem dL_brokenCopy_14 : decode cL_brokenCopy 14 = .ok (.ireturn, 1) := by decide +kernel
theorem dL_brokenCopy_15 : decode cL_brokenCopy 15 = .ok (.iconst 0, 1) := by decide +kernel
theorem dL_brokenCopy_16 : decode cL_brokenCopy 16 = .ok (.ireturn, 1) := by decide +kernel
theorem dL_isTrue_0 : decode cL_isTrue 0 = .ok (.aload_n 2, 1) := by decide +kernel
theorem dL_isTrue_1 : decode cL_isTrue 1 = .ok (.iconst 0, 1) := by decide +kernel
theorem dL_isTrue_2 : decode cL_isTrue 2 = .ok (.aload_n 0, 1) := by decide +kernel
theorem dL_isTrue_3 : decode cL_isTrue 3 = .ok (.iload_n 1, 1) := by decide +kernel
theorem dL_isTrue_4 : decode cL_isTrue 4 = .ok (.invokevirtual 130, 3) := by decide +kernel
theorem dL_isTrue_7 : decode cL_isTrue 7 = .ok (.ifCond .eq 7, 3) := by decide +kernel
theorem dL_isTrue_10 : decode cL_isTrue 10 = .ok (.lconst 1, 1) := by decide +kernel
theorem dL_isTrue_11 : decode cL_isTrue 11 = .ok (.goto 4, 3) := by decide +kernel
theorem dL_isTrue_14 : decode cL_isTrue 14 = .ok (.lconst 0, 1) := by decide +kernel
theorem dL_isTrue_15 : decode cL_isTrue 15 = .ok (.lastore, 1) := by decide +kernel
theorem dL_isTrue_16 : decode cL_isTrue 16 = .ok (.goto 6, 3) := by decide +kernel
theorem dL_isTrue_19 : decode cL_isTrue 19 = .ok (.astore_n 3, 1) := by decide +kernel
theorem dL_isTrue_20 : decode cL_isTrue 20 = .ok (.iconst 1, 1) := by decide +kernel
theorem dL_isTrue_21 : decode cL_isTrue 21 = .ok (.ireturn, 1) := by decide +kernel
theorem dL_isTrue_22 : decode cL_isTrue 22 = .ok (.iconst 0, 1) := by decide +kernel
theorem dL_isTrue_23 : decode cL_isTrue 23 = .ok (.ireturn, 1) := by decide +kernel
theorem dL_law_0 : decode cL_law 0 = .ok (.new 8, 3) := by decide +kernel
theorem dL_law_3 : decode cL_law 3 = .ok (.dup, 1) := by decide +kernel
theorem dL_law_4 : decode cL_law 4 = .ok (.invokespecial 134, 3) := by decide +kernel
theorem dL_law_7 : decode cL_law 7 = .ok (.astore_n 1, 1) := by decide +kernel
theorem dL_law_8 : decode cL_law 8 = .ok (.new 135, 3) := by decide +kernel
theorem dL_law_11 : decode cL_law 11 = .ok (.dup, 1) := by decide +kernel
theorem dL_law_12 : decode cL_law 12 = .ok (.invokespecial 137, 3) := by decide +kernel
theorem dL_law_15 : decode cL_law 15 = .ok (.astore_n 2, 1) := by decide +kernel
theorem dL_law_16 : decode cL_law 16 = .ok (.iconst 1, 1) := by decide +kernel
theorem dL_law_17 : decode cL_law 17 = .ok (.newarray .long, 2) := by decide +kernel
theorem dL_law_19 : decode cL_law 19 = .ok (.astore_n 3, 1) := by decide +kernel
theorem dL_law_20 : decode cL_law 20 = .ok (.iconst 0, 1) := by decide +kernel
theorem dL_law_21 : decode cL_law 21 = .ok (.istore 4, 2) := by decide +kernel
theorem dL_law_23 : decode cL_law 23 = .ok (.iload 4, 2) := by decide +kernel
theorem dL_law_25 : decode cL_law 25 = .ok (.aload_n 0, 1) := by decide +kernel
theorem dL_law_26 : decode cL_law 26 = .ok (.arraylength, 1) := by decide +kernel
theorem dL_law_27 : decode cL_law 27 = .ok (.bipush 6, 2) := by decide +kernel
theorem dL_law_29 : decode cL_law 29 = .ok (.isub, 1) := by decide +kernel
theorem dL_law_30 : decode cL_law 30 = .ok (.if_icmp .gt 2855, 3) := by decide +kernel
theorem dL_law_33 : decode cL_law 33 = .ok (.aload_n 0, 1) := by decide +kernel
theorem dL_law_34 : decode cL_law 34 = .ok (.iload 4, 2) := by decide +kernel
theorem dL_law_36 : decode cL_law 36 = .ok (.iaload, 1) := by decide +kernel
theorem dL_law_37 : decode cL_law 37 = .ok (.bipush 63, 2) := by decide +kernel
theorem dL_law_39 : decode cL_law 39 = .ok (.iand, 1) := by decide +kernel
theorem dL_law_40 : decode cL_law 40 = .ok (.tableswitch 2839 0 40 #[180, 248, 316, 372, 428, 512, 592, 672, 752, 832, 880, 972, 1052, 1144, 1236, 1249, 1262, 1275, 1331, 1406, 1474, 1542, 1617, 1673, 1729, 1785, 1860, 1928, 1984, 2076, 2156, 2231, 2299, 2312, 2380, 2460, 2528, 2584, 2640, 2720, 2776], 180) := by decide +kernel
theorem dL_law_220 : decode cL_law 220 = .ok (.aload_n 1, 1) := by decide +kernel
theorem dL_law_221 : decode cL_law 221 = .ok (.aload_n 0, 1) := by decide +kernel
theorem dL_law_222 : decode cL_law 222 = .ok (.iload 4, 2) := by decide +kernel
theorem dL_law_224 : decode cL_law 224 = .ok (.iconst 1, 1) := by decide +kernel
theorem dL_law_225 : decode cL_law 225 = .ok (.iadd, 1) := by decide +kernel
theorem dL_law_226 : decode cL_law 226 = .ok (.iaload, 1) := by decide +kernel
theorem dL_law_227 : decode cL_law 227 = .ok (.aload_n 0, 1) := by decide +kernel
theorem dL_law_228 : decode cL_law 228 = .ok (.iload 4, 2) := by decide +kernel
theorem dL_law_230 : decode cL_law 230 = .ok (.iconst 2, 1) := by decide +kernel
theorem dL_law_231 : decode cL_law 231 = .ok (.iadd, 1) := by decide +kernel
theorem dL_law_232 : decode cL_law 232 = .ok (.iaload, 1) := by decide +kernel
theorem dL_law_233 : decode cL_law 233 = .ok (.aload_n 3, 1) := by decide +kernel
theorem dL_law_234 : decode cL_law 234 = .ok (.invokestatic 138, 3) := by decide +kernel
theorem dL_law_237 : decode cL_law 237 = .ok (.istore 5, 2) := by decide +kernel
theorem dL_law_239 : decode cL_law 239 = .ok (.aload_n 2, 1) := by decide +kernel
theorem dL_law_240 : decode cL_law 240 = .ok (.aload_n 0, 1) := by decide +kernel
theorem dL_law_241 : decode cL_law 241 = .ok (.iload 4, 2) := by decide +kernel
theorem dL_law_243 : decode cL_law 243 = .ok (.iconst 1, 1) := by decide +kernel
theorem dL_law_244 : decode cL_law 244 = .ok (.iadd, 1) := by decide +kernel
theorem dL_law_245 : decode cL_law 245 = .ok (.iaload, 1) := by decide +kernel
theorem dL_law_246 : decode cL_law 246 = .ok (.aload_n 0, 1) := by decide +kernel
theorem dL_law_247 : decode cL_law 247 = .ok (.iload 4, 2) := by decide +kernel
theorem dL_law_249 : decode cL_law 249 = .ok (.iconst 2, 1) := by decide +kernel
theorem dL_law_250 : decode cL_law 250 = .ok (.iadd, 1) := by decide +kernel
theorem dL_law_251 : decode cL_law 251 = .ok (.iaload, 1) := by decide +kernel
theorem dL_law_252 : decode cL_law 252 = .ok (.invokevirtual 143, 3) := by decide +kernel
theorem dL_law_255 : decode cL_law 255 = .ok (.istore 6, 2) := by decide +kernel
theorem dL_law_257 : decode cL_law 257 = .ok (.aload_n 2, 1) := by decide +kernel
theorem dL_law_258 : decode cL_law 258 = .ok (.invokevirtual 144, 3) := by decide +kernel
theorem dL_law_261 : decode cL_law 261 = .ok (.iload 5, 2) := by decide +kernel
theorem dL_law_263 : decode cL_law 263 = .ok (.if_icmp .eq 5, 3) := by decide +kernel
theorem dL_law_266 : decode cL_law 266 = .ok (.iconst 0, 1) := by decide +kernel
theorem dL_law_267 : decode cL_law 267 = .ok (.ireturn, 1) := by decide +kernel
theorem dL_law_268 : decode cL_law 268 = .ok (.iload 5, 2) := by decide +kernel
theorem dL_law_270 : decode cL_law 270 = .ok (.ifCond .ne 15, 3) := by decide +kernel
theorem dL_law_273 : decode cL_law 273 = .ok (.aload_n 3, 1) := by decide +kernel
theorem dL_law_274 : decode cL_law 274 = .ok (.iconst 0, 1) := by decide +kernel
theorem dL_law_275 : decode cL_law 275 = .ok (.laload, 1) := by decide +kernel
theorem dL_law_276 : decode cL_law 276 = .ok (.iload 6, 2) := by decide +kernel
theorem dL_law_278 : decode cL_law 278 = .ok (.i2l, 1) := by decide +kernel
theorem dL_law_279 : decode cL_law 279 = .ok (.lcmp, 1) := by decide +kernel
theorem dL_law_280 : decode cL_law 280 = .ok (.ifCond .eq 5, 3) := by decide +kernel
theorem dL_law_283 : decode cL_law 283 = .ok (.iconst 0, 1) := by decide +kernel
theorem dL_law_284 : decode cL_law 284 = .ok (.ireturn, 1) := by decide +kernel
theorem dL_law_285 : decode cL_law 285 = .ok (.goto 2594, 3) := by decide +kernel
theorem dL_law_288 : decode cL_law 288 = .ok (.aload_n 1, 1) := by decide +kernel
theorem dL_law_289 : decode cL_law 289 = .ok (.aload_n 0, 1) := by decide +kernel
theorem dL_law_290 : decode cL_law 290 = .ok (.iload 4, 2) := by decide +kernel
theorem dL_law_292 : decode cL_law 292 = .ok (.iconst 1, 1) := by decide +kernel
theorem dL_law_293 : decode cL_law 293 = .ok (.iadd, 1) := by decide +kernel
theorem dL_law_294 : decode cL_law 294 = .ok (.iaload, 1) := by decide +kernel
theorem dL_law_295 : decode cL_law 295 = .ok (.aload_n 0, 1) := by decide +kernel
theorem dL_law_296 : decode cL_law 296 = .ok (.iload 4, 2) := by decide +kernel
theorem dL_law_298 : decode cL_law 298 = .ok (.iconst 2, 1) := by decide +kernel
theorem dL_law_299 : decode cL_law 299 = .ok (.iadd, 1) := by decide +kernel
theorem dL_law_300 : decode cL_law 300 = .ok (.iaload, 1) := by decide +kernel
theorem dL_law_301 : decode cL_law 301 = .ok (.aload_n 3, 1) := by decide +kernel
theorem dL_law_302 : decode cL_law 302 = .ok (.invokestatic 148, 3) := by decide +kernel
theorem dL_law_305 : decode cL_law 305 = .ok (.istore 5, 2) := by decide +kernel
theorem dL_law_307 : decode cL_law 307 = .ok (.aload_n 2, 1) := by decide +kernel
theorem dL_law_308 : decode cL_law 308 = .ok (.aload_n 0, 1) := by decide +kernel
theorem dL_law_309 : decode cL_law 309 = .ok (.iload 4, 2) := by decide +kernel
theorem dL_law_311 : decode cL_law 311 = .ok (.iconst 1, 1) := by decide +kernel
theorem dL_law_312 : decode cL_law 312 = .ok (.iadd, 1) := by decide +kernel
theorem dL_law_313 : decode cL_law 313 = .ok (.iaload, 1) := by decide +kernel
theorem dL_law_314 : decode cL_law 314 = .ok (.aload_n 0, 1) := by decide +kernel
theorem dL_law_315 : decode cL_law 315 = .ok (.iload 4, 2) := by decide +kernel
theorem dL_law_317 : decode cL_law 317 = .ok (.iconst 2, 1) := by decide +kernel
theorem dL_law_318 : decode cL_law 318 = .ok (.iadd, 1) := by decide +kernel
theorem dL_law_319 : decode cL_law 319 = .ok (.iaload, 1) := by decide +kernel
theorem dL_law_320 : decode cL_law 320 = .ok (.invokevirtual 150, 3) := by decide +kernel
theorem dL_law_323 : decode cL_law 323 = .ok (.istore 6, 2) := by decide +kernel
theorem dL_law_325 : decode cL_law 325 = .ok (.aload_n 2, 1) := by decide +kernel
theorem dL_law_326 : decode cL_law 326 = .ok (.invokevirtual 144, 3) := by decide +kernel
theorem dL_law_329 : decode cL_law 329 = .ok (.iload 5, 2) := by decide +kernel
theorem dL_law_331 : decode cL_law 331 = .ok (.if_icmp .eq 5, 3) := by decide +kernel
theorem dL_law_334 : decode cL_law 334 = .ok (.iconst 0, 1) := by decide +kernel
theorem dL_law_335 : decode cL_law 335 = .ok (.ireturn, 1) := by decide +kernel
theorem dL_law_336 : decode cL_law 336 = .ok (.iload 5, 2) := by decide +kernel
theorem dL_law_338 : decode cL_law 338 = .ok (.ifCond .ne 15, 3) := by decide +kernel
theorem dL_law_341 : decode cL_law 341 = .ok (.aload_n 3, 1) := by decide +kernel
theorem dL_law_342 : decode cL_law 342 = .ok (.iconst 0, 1) := by decide +kernel
theorem dL_law_343 : decode cL_law 343 = .ok (.laload, 1) := by decide +kernel
theorem dL_law_344 : decode cL_law 344 = .ok (.iload 6, 2) := by decide +kernel
theorem dL_law_346 : decode cL_law 346 = .ok (.i2l, 1) := by decide +kernel
theorem dL_law_347 : decode cL_law 347 = .ok (.lcmp, 1) := by decide +kernel
theorem dL_law_348 : decode cL_law 348 = .ok (.ifCond .eq 5, 3) := by decide +kernel
theorem dL_law_351 : decode cL_law 351 = .ok (.iconst 0, 1) := by decide +kernel
theorem dL_law_352 : decode cL_law 352 = .ok (.ireturn, 1) := by decide +kernel
theorem dL_law_353 : decode cL_law 353 = .ok (.goto 2526, 3) := by decide +kernel
theorem dL_law_356 : decode cL_law 356 = .ok (.aload_n 1, 1) := by decide +kernel
theorem dL_law_357 : decode cL_law 357 = .ok (.aload_n 0, 1) := by decide +kernel
theorem dL_law_358 : decode cL_law 358 = .ok (.iload 4, 2) := by decide +kernel
theorem dL_law_360 : decode cL_law 360 = .ok (.iconst 1, 1) := by decide +kernel
theorem dL_law_361 : decode cL_law 361 = .ok (.iadd, 1) := by decide +kernel
theorem dL_law_362 : decode cL_law 362 = .ok (.iaload, 1) := by decide +kernel
theorem dL_law_363 : decode cL_law 363 = .ok (.aload_n 3, 1) := by decide +kernel
theorem dL_law_364 : decode cL_law 364 = .ok (.invokestatic 151, 3) := by decide +kernel
theorem dL_law_367 : decode cL_law 367 = .ok (.istore 5, 2) := by decide +kernel
theorem dL_law_369 : decode cL_law 369 = .ok (.aload_n 2, 1) := by decide +kernel
theorem dL_law_370 : decode cL_law 370 = .ok (.aload_n 0, 1) := by decide +kernel
theorem dL_law_371 : decode cL_law 371 = .ok (.iload 4, 2) := by decide +kernel
theorem dL_law_373 : decode cL_law 373 = .ok (.iconst 1, 1) := by decide +kernel
theorem dL_law_374 : decode cL_law 374 = .ok (.iadd, 1) := by decide +kernel
theorem dL_law_375 : decode cL_law 375 = .ok (.iaload, 1) := by decide +kernel
theorem dL_law_376 : decode cL_law 376 = .ok (.invokevirtual 154, 3) := by decide +kernel
theorem dL_law_379 : decode cL_law 379 = .ok (.istore 6, 2) := by decide +kernel
theorem dL_law_381 : decode cL_law 381 = .ok (.aload_n 2, 1) := by decide +kernel
theorem dL_law_382 : decode cL_law 382 = .ok (.invokevirtual 144, 3) := by decide +kernel
theorem dL_law_385 : decode cL_law 385 = .ok (.iload 5, 2) := by decide +kernel
theorem dL_law_387 : decode cL_law 387 = .ok (.if_icmp .eq 5, 3) := by decide +kernel
theorem dL_law_390 : decode cL_law 390 = .ok (.iconst 0, 1) := by decide +kernel
theorem dL_law_391 : decode cL_law 391 = .ok (.ireturn, 1) := by decide +kernel
theorem dL_law_392 : decode cL_law 392 = .ok (.iload 5, 2) := by decide +kernel
theorem dL_law_394 : decode cL_law 394 = .ok (.ifCond .ne 15, 3) := by decide +kernel
theorem dL_law_397 : decode cL_law 397 = .ok (.aload_n 3, 1) := by decide +kernel
theorem dL_law_398 : decode cL_law 398 = .ok (.iconst 0, 1) := by decide +kernel
theorem dL_law_399 : decode cL_law 399 = .ok (.laload, 1) := by decide +kernel
theorem dL_law_400 : decode cL_law 400 = .ok (.iload 6, 2) := by decide +kernel
theorem dL_law_402 : decode cL_law 402 = .ok (.i2l, 1) := by decide +kernel
theorem dL_law_403 : decode cL_law 403 = .ok (.lcmp, 1) := by decide +kernel
theorem dL_law_404 : decode cL_law 404 = .ok (.ifCond .eq 5, 3) := by decide +kernel
theorem dL_law_407 : decode cL_law 407 = .ok (.iconst 0, 1) := by decide +kernel
theorem dL_law_408 : decode cL_law 408 = .ok (.ireturn, 1) := by decide +kernel
theorem dL_law_409 : decode cL_law 409 = .ok (.goto 2470, 3) := by decide +kernel
theorem dL_law_412 : decode cL_law 412 = .ok (.aload_n 1, 1) := by decide +kernel
theorem dL_law_413 : decode cL_law 413 = .ok (.aload_n 0, 1) := by decide +kernel
theorem dL_law_414 : decode cL_law 414 = .ok (.iload 4, 2) := by decide +kernel
theorem dL_law_416 : decode cL_law 416 = .ok (.iconst 1, 1) := by decide +kernel
theorem dL_law_417 : decode cL_law 417 = .ok (.iadd, 1) := by decide +kernel
theorem dL_law_418 : decode cL_law 418 = .ok (.iaload, 1) := by decide +kernel
theorem dL_law_419 : decode cL_law 419 = .ok (.aload_n 3, 1) := by decide +kernel
theorem dL_law_420 : decode cL_law 420 = .ok (.invokestatic 155, 3) := by decide +kernel
theorem dL_law_423 : decode cL_law 423 = .ok (.istore 5, 2) := by decide +kernel
theorem dL_law_425 : decode cL_law 425 = .ok (.aload_n 2, 1) := by decide +kernel
theorem dL_law_426 : decode cL_law 426 = .ok (.aload_n 0, 1) := by decide +kernel
theorem dL_law_427 : decode cL_law 427 = .ok (.iload 4, 2) := by decide +kernel
theorem dL_law_429 : decode cL_law 429 = .ok (.iconst 1, 1) := by decide +kernel
theorem dL_law_430 : decode cL_law 430 = .ok (.iadd, 1) := by decide +kernel
theorem dL_law_431 : decode cL_law 431 = .ok (.iaload, 1) := by decide +kernel
theorem dL_law_432 : decode cL_law 432 = .ok (.invokevirtual 157, 3) := by decide +kernel
theorem dL_law_435 : decode cL_law 435 = .ok (.istore 6, 2) := by decide +kernel
theorem dL_law_437 : decode cL_law 437 = .ok (.aload_n 2, 1) := by decide +kernel
theorem dL_law_438 : decode cL_law 438 = .ok (.invokevirtual 144, 3) := by decide +kernel
theorem dL_law_441 : decode cL_law 441 = .ok (.iload 5, 2) := by decide +kernel
theorem dL_law_443 : decode cL_law 443 = .ok (.if_icmp .eq 5, 3) := by decide +kernel
theorem dL_law_446 : decode cL_law 446 = .ok (.iconst 0, 1) := by decide +kernel
theorem dL_law_447 : decode cL_law 447 = .ok (.ireturn, 1) := by decide +kernel
theorem dL_law_448 : decode cL_law 448 = .ok (.iload 5, 2) := by decide +kernel
theorem dL_law_450 : decode cL_law 450 = .ok (.ifCond .ne 15, 3) := by decide +kernel

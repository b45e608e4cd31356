theorem dX0_init_0 : decode cX0_init 0 = .ok (.aload_n 0, 1) := by decide +kernel
theorem dX0_init_1 : decode cX0_init 1 = .ok (.invokespecial 3, 3) := by decide +kernel
theorem dX0_init_4 : decode cX0_init 4 = .ok (.aload_n 0, 1) := by decide +kernel
theorem dX0_init_5 : decode cX0_init 5 = .ok (.aload_n 1, 1) := by decide +kernel
theorem dX0_init_6 : decode cX0_init 6 = .ok (.putfield 9, 3) := by decide +kernel
theorem dX0_init_9 : decode cX0_init 9 = .ok (.aload_n 0, 1) := by decide +kernel
theorem dX0_init_10 : decode cX0_init 10 = .ok (.aload_n 2, 1) := by decide +kernel
theorem dX0_init_11 : decode cX0_init 11 = .ok (.putfield 15, 3) := by decide +kernel
theorem dX0_init_14 : decode cX0_init 14 = .ok (.aload_n 0, 1) := by decide +kernel
theorem dX0_init_15 : decode cX0_init 15 = .ok (.bipush 6, 2) := by decide +kernel
theorem dX0_init_17 : decode cX0_init 17 = .ok (.newarray .int, 2) := by decide +kernel
theorem dX0_init_19 : decode cX0_init 19 = .ok (.putfield 19, 3) := by decide +kernel
theorem dX0_init_22 : decode cX0_init 22 = .ok (.aload_n 0, 1) := by decide +kernel
theorem dX0_init_23 : decode cX0_init 23 = .ok (.getfield 19, 3) := by decide +kernel
theorem dX0_init_26 : decode cX0_init 26 = .ok (.iconst 0, 1) := by decide +kernel
theorem dX0_init_27 : decode cX0_init 27 = .ok (.aload_n 2, 1) := by decide +kernel
theorem dX0_init_28 : decode cX0_init 28 = .ok (.getfield 23, 3) := by decide +kernel
theorem dX0_init_31 : decode cX0_init 31 = .ok (.iastore, 1) := by decide +kernel
theorem dX0_init_32 : decode cX0_init 32 = .ok (.aload_n 0, 1) := by decide +kernel
theorem dX0_init_33 : decode cX0_init 33 = .ok (.getfield 19, 3) := by decide +kernel
theorem dX0_init_36 : decode cX0_init 36 = .ok (.iconst 1, 1) := by decide +kernel
theorem dX0_init_37 : decode cX0_init 37 = .ok (.aload_n 1, 1) := by decide +kernel
theorem dX0_init_38 : decode cX0_init 38 = .ok (.getfield 29, 3) := by decide +kernel
theorem dX0_init_41 : decode cX0_init 41 = .ok (.iastore, 1) := by decide +kernel
theorem dX0_init_42 : decode cX0_init 42 = .ok (.aload_n 0, 1) := by decide +kernel
theorem dX0_init_43 : decode cX0_init 43 = .ok (.getfield 19, 3) := by decide +kernel
theorem dX0_init_46 : decode cX0_init 46 = .ok (.iconst 2, 1) := by decide +kernel
theorem dX0_init_47 : decode cX0_init 47 = .ok (.aload_n 2, 1) := by decide +kernel
theorem dX0_init_48 : decode cX0_init 48 = .ok (.getfield 34, 3) := by decide +kernel
theorem dX0_init_51 : decode cX0_init 51 = .ok (.iastore, 1) := by decide +kernel
theorem dX0_init_52 : decode cX0_init 52 = .ok (.aload_n 0, 1) := by decide +kernel
theorem dX0_init_53 : decode cX0_init 53 = .ok (.getfield 19, 3) := by decide +kernel
theorem dX0_init_56 : decode cX0_init 56 = .ok (.iconst 3, 1) := by decide +kernel
theorem dX0_init_57 : decode cX0_init 57 = .ok (.aload_n 2, 1) := by decide +kernel
theorem dX0_init_58 : decode cX0_init 58 = .ok (.getfield 37, 3) := by decide +kernel
theorem dX0_init_61 : decode cX0_init 61 = .ok (.iastore, 1) := by decide +kernel
theorem dX0_init_62 : decode cX0_init 62 = .ok (.aload_n 0, 1) := by decide +kernel
theorem dX0_init_63 : decode cX0_init 63 = .ok (.getfield 19, 3) := by decide +kernel
theorem dX0_init_66 : decode cX0_init 66 = .ok (.iconst 4, 1) := by decide +kernel
theorem dX0_init_67 : decode cX0_init 67 = .ok (.aload_n 2, 1) := by decide +kernel
theorem dX0_init_68 : decode cX0_init 68 = .ok (.getfield 40, 3) := by decide +kernel
theorem dX0_init_71 : decode cX0_init 71 = .ok (.iastore, 1) := by decide +kernel
theorem dX0_init_72 : decode cX0_init 72 = .ok (.aload_n 0, 1) := by decide +kernel
theorem dX0_init_73 : decode cX0_init 73 = .ok (.getfield 19, 3) := by decide +kernel
theorem dX0_init_76 : decode cX0_init 76 = .ok (.iconst 5, 1) := by decide +kernel
theorem dX0_init_77 : decode cX0_init 77 = .ok (.aload_n 2, 1) := by decide +kernel
theorem dX0_init_78 : decode cX0_init 78 = .ok (.getfield 43, 3) := by decide +kernel
theorem dX0_init_81 : decode cX0_init 81 = .ok (.iastore, 1) := by decide +kernel
theorem dX0_init_82 : decode cX0_init 82 = .ok (.return_, 1) := by decide +kernel
theorem dX0_amountBy_0 : decode cX0_amountBy 0 = .ok (.aload_n 0, 1) := by decide +kernel
theorem dX0_amountBy_1 : decode cX0_amountBy 1 = .ok (.getfield 9, 3) := by decide +kernel
theorem dX0_amountBy_4 : decode cX0_amountBy 4 = .ok (.aload_n 1, 1) := by decide +kernel
theorem dX0_amountBy_5 : decode cX0_amountBy 5 = .ok (.invokevirtual 46, 3) := by decide +kernel
theorem dX0_amountBy_8 : decode cX0_amountBy 8 = .ok (.ifCond .eq 13, 3) := by decide +kernel
theorem dX0_amountBy_11 : decode cX0_amountBy 11 = .ok (.aload_n 0, 1) := by decide +kernel
theorem dX0_amountBy_12 : decode cX0_amountBy 12 = .ok (.getfield 15, 3) := by decide +kernel
theorem dX0_amountBy_15 : decode cX0_amountBy 15 = .ok (.getfield 37, 3) := by decide +kernel
theorem dX0_amountBy_18 : decode cX0_amountBy 18 = .ok (.goto 4, 3) := by decide +kernel
theorem dX0_amountBy_21 : decode cX0_amountBy 21 = .ok (.iconst 0, 1) := by decide +kernel
theorem dX0_amountBy_22 : decode cX0_amountBy 22 = .ok (.ireturn, 1) := by decide +kernel
theorem dX1_init_0 : decode cX1_init 0 = .ok (.aload_n 0, 1) := by decide +kernel
theorem dX1_init_1 : decode cX1_init 1 = .ok (.invokespecial 1, 3) := by decide +kernel
theorem dX1_init_4 : decode cX1_init 4 = .ok (.aload_n 0, 1) := by decide +kernel
theorem dX1_init_5 : decode cX1_init 5 = .ok (.iload_n 1, 1) := by decide +kernel
theorem dX1_init_6 : decode cX1_init 6 = .ok (.putfield 7, 3) := by decide +kernel
theorem dX1_init_9 : decode cX1_init 9 = .ok (.aload_n 0, 1) := by decide +kernel
theorem dX1_init_10 : decode cX1_init 10 = .ok (.new 13, 3) := by decide +kernel
theorem dX1_init_13 : decode cX1_init 13 = .ok (.dup, 1) := by decide +kernel
theorem dX1_init_14 : decode cX1_init 14 = .ok (.invokespecial 15, 3) := by decide +kernel
theorem dX1_init_17 : decode cX1_init 17 = .ok (.putfield 16, 3) := by decide +kernel
theorem dX1_init_20 : decode cX1_init 20 = .ok (.return_, 1) := by decide +kernel
theorem dX1_count_0 : decode cX1_count 0 = .ok (.aload_n 0, 1) := by decide +kernel
theorem dX1_count_1 : decode cX1_count 1 = .ok (.getfield 16, 3) := by decide +kernel
theorem dX1_count_4 : decode cX1_count 4 = .ok (.invokevirtual 20, 3) := by decide +kernel
theorem dX1_count_7 : decode cX1_count 7 = .ok (.ireturn, 1) := by decide +kernel
theorem dX1_actOf_0 : decode cX1_actOf 0 = .ok (.aload_n 0, 1) := by decide +kernel
theorem dX1_actOf_1 : decode cX1_actOf 1 = .ok (.getfield 16, 3) := by decide +kernel
theorem dX1_actOf_4 : decode cX1_actOf 4 = .ok (.iload_n 1, 1) := by decide +kernel
theorem dX1_actOf_5 : decode cX1_actOf 5 = .ok (.invokevirtual 24, 3) := by decide +kernel
theorem dX1_actOf_8 : decode cX1_actOf 8 = .ok (.checkcast 28, 3) := by decide +kernel
theorem dX1_actOf_11 : decode cX1_actOf 11 = .ok (.areturn, 1) := by decide +kernel
theorem dX1_enter_0 : decode cX1_enter 0 = .ok (.aload_n 0, 1) := by decide +kernel
theorem dX1_enter_1 : decode cX1_enter 1 = .ok (.getfield 16, 3) := by decide +kernel
theorem dX1_enter_4 : decode cX1_enter 4 = .ok (.invokevirtual 20, 3) := by decide +kernel
theorem dX1_enter_7 : decode cX1_enter 7 = .ok (.istore_n 2, 1) := by decide +kernel
theorem dX1_enter_8 : decode cX1_enter 8 = .ok (.aload_n 1, 1) := by decide +kernel
theorem dX1_enter_9 : decode cX1_enter 9 = .ok (.aload_n 0, 1) := by decide +kernel
theorem dX1_enter_10 : decode cX1_enter 10 = .ok (.iload_n 2, 1) := by decide +kernel
theorem dX1_enter_11 : decode cX1_enter 11 = .ok (.aload_n 1, 1) := by decide +kernel
theorem dX1_enter_12 : decode cX1_enter 12 = .ok (.invokevirtual 30, 3) := by decide +kernel
theorem dX1_enter_15 : decode cX1_enter 15 = .ok (.putfield 34, 3) := by decide +kernel
theorem dX1_enter_18 : decode cX1_enter 18 = .ok (.aload_n 0, 1) := by decide +kernel
theorem dX1_enter_19 : decode cX1_enter 19 = .ok (.getfield 16, 3) := by decide +kernel
theorem dX1_enter_22 : decode cX1_enter 22 = .ok (.aload_n 1, 1) := by decide +kernel
theorem dX1_enter_23 : decode cX1_enter 23 = .ok (.invokevirtual 37, 3) := by decide +kernel
theorem dX1_enter_26 : decode cX1_enter 26 = .ok (.pop, 1) := by decide +kernel
theorem dX1_enter_27 : decode cX1_enter 27 = .ok (.iload_n 2, 1) := by decide +kernel
theorem dX1_enter_28 : decode cX1_enter 28 = .ok (.ireturn, 1) := by decide +kernel
theorem dX1_sealAhead_0 : decode cX1_sealAhead 0 = .ok (.iload_n 1, 1) := by decide +kernel
theorem dX1_sealAhead_1 : decode cX1_sealAhead 1 = .ok (.ifCond .le 22, 3) := by decide +kernel
theorem dX1_sealAhead_4 : decode cX1_sealAhead 4 = .ok (.aload_n 0, 1) := by decide +kernel
theorem dX1_sealAhead_5 : decode cX1_sealAhead 5 = .ok (.getfield 16, 3) := by decide +kernel
theorem dX1_sealAhead_8 : decode cX1_sealAhead 8 = .ok (.iload_n 1, 1) := by decide +kernel
theorem dX1_sealAhead_9 : decode cX1_sealAhead 9 = .ok (.iconst 1, 1) := by decide +kernel
theorem dX1_sealAhead_10 : decode cX1_sealAhead 10 = .ok (.isub, 1) := by decide +kernel
theorem dX1_sealAhead_11 : decode cX1_sealAhead 11 = .ok (.invokevirtual 24, 3) := by decide +kernel
theorem dX1_sealAhead_14 : decode cX1_sealAhead 14 = .ok (.checkcast 28, 3) := by decide +kernel
theorem dX1_sealAhead_17 : decode cX1_sealAhead 17 = .ok (.getfield 34, 3) := by decide +kernel
theorem dX1_sealAhead_20 : decode cX1_sealAhead 20 = .ok (.goto 11, 3) := by decide +kernel
theorem dX1_sealAhead_23 : decode cX1_sealAhead 23 = .ok (.sipush 1000, 3) := by decide +kernel
theorem dX1_sealAhead_26 : decode cX1_sealAhead 26 = .ok (.aload_n 0, 1) := by decide +kernel
theorem dX1_sealAhead_27 : decode cX1_sealAhead 27 = .ok (.getfield 7, 3) := by decide +kernel
theorem dX1_sealAhead_30 : decode cX1_sealAhead 30 = .ok (.iadd, 1) := by decide +kernel
theorem dX1_sealAhead_31 : decode cX1_sealAhead 31 = .ok (.ireturn, 1) := by decide +kernel
theorem dX1_sealNow_0 : decode cX1_sealNow 0 = .ok (.aload_n 0, 1) := by decide +kernel
theorem dX1_sealNow_1 : decode cX1_sealNow 1 = .ok (.iload_n 1, 1) := by decide +kernel
theorem dX1_sealNow_2 : decode cX1_sealNow 2 = .ok (.invokevirtual 41, 3) := by decide +kernel
theorem dX1_sealNow_5 : decode cX1_sealNow 5 = .ok (.aload_n 0, 1) := by decide +kernel
theorem dX1_sealNow_6 : decode cX1_sealNow 6 = .ok (.getfield 7, 3) := by decide +kernel
theorem dX1_sealNow_9 : decode cX1_sealNow 9 = .ok (.iload_n 1, 1) := by decide +kernel
theorem dX1_sealNow_10 : decode cX1_sealNow 10 = .ok (.aload_n 2, 1) := by decide +kernel
theorem dX1_sealNow_11 : decode cX1_sealNow 11 = .ok (.getfield 45, 3) := by decide +kernel
theorem dX1_sealNow_14 : decode cX1_sealNow 14 = .ok (.iconst 0, 1) := by decide +kernel
theorem dX1_sealNow_15 : decode cX1_sealNow 15 = .ok (.invokestatic 49, 3) := by decide +kernel
theorem dX1_sealNow_18 : decode cX1_sealNow 18 = .ok (.ireturn, 1) := by decide +kernel
theorem dX1_firstBroken_0 : decode cX1_firstBroken 0 = .ok (.iconst 0, 1) := by decide +kernel
theorem dX1_firstBroken_1 : decode cX1_firstBroken 1 = .ok (.istore_n 1, 1) := by decide +kernel
theorem dX1_firstBroken_2 : decode cX1_firstBroken 2 = .ok (.iload_n 1, 1) := by decide +kernel
theorem dX1_firstBroken_3 : decode cX1_firstBroken 3 = .ok (.aload_n 0, 1) := by decide +kernel
theorem dX1_firstBroken_4 : decode cX1_firstBroken 4 = .ok (.getfield 16, 3) := by decide +kernel
theorem dX1_firstBroken_7 : decode cX1_firstBroken 7 = .ok (.invokevirtual 20, 3) := by decide +kernel
theorem dX1_firstBroken_10 : decode cX1_firstBroken 10 = .ok (.if_icmp .ge 36, 3) := by decide +kernel
theorem dX1_firstBroken_13 : decode cX1_firstBroken 13 = .ok (.aload_n 0, 1) := by decide +kernel
theorem dX1_firstBroken_14 : decode cX1_firstBroken 14 = .ok (.getfield 16, 3) := by decide +kernel
theorem dX1_firstBroken_17 : decode cX1_firstBroken 17 = .ok (.iload_n 1, 1) := by decide +kernel
theorem dX1_firstBroken_18 : decode cX1_firstBroken 18 = .ok (.invokevirtual 24, 3) := by decide +kernel
theorem dX1_firstBroken_21 : decode cX1_firstBroken 21 = .ok (.checkcast 28, 3) := by decide +kernel
theorem dX1_firstBroken_24 : decode cX1_firstBroken 24 = .ok (.astore_n 2, 1) := by decide +kernel
theorem dX1_firstBroken_25 : decode cX1_firstBroken 25 = .ok (.aload_n 0, 1) := by decide +kernel
theorem dX1_firstBroken_26 : decode cX1_firstBroken 26 = .ok (.iload_n 1, 1) := by decide +kernel
theorem dX1_firstBroken_27 : decode cX1_firstBroken 27 = .ok (.aload_n 2, 1) := by decide +kernel
theorem dX1_firstBroken_28 : decode cX1_firstBroken 28 = .ok (.invokevirtual 30, 3) := by decide +kernel
theorem dX1_firstBroken_31 : decode cX1_firstBroken 31 = .ok (.aload_n 2, 1) := by decide +kernel
theorem dX1_firstBroken_32 : decode cX1_firstBroken 32 = .ok (.getfield 34, 3) := by decide +kernel
theorem dX1_firstBroken_35 : decode cX1_firstBroken 35 = .ok (.if_icmp .eq 5, 3) := by decide +kernel
theorem dX1_firstBroken_38 : decode cX1_firstBroken 38 = .ok (.iload_n 1, 1) := by decide +kernel
theorem dX1_firstBroken_39 : decode cX1_firstBroken 39 = .ok (.ireturn, 1) := by decide +kernel
theorem dX1_firstBroken_40 : decode cX1_firstBroken 40 = .ok (.iinc 1 1, 3) := by decide +kernel
theorem dX1_firstBroken_43 : decode cX1_firstBroken 43 = .ok (.goto (-41), 3) := by decide +kernel
theorem dX1_firstBroken_46 : decode cX1_firstBroken 46 = .ok (.iconst (-1), 1) := by decide +kernel
theorem dX1_firstBroken_47 : decode cX1_firstBroken 47 = .ok (.ireturn, 1) := by decide +kernel
theorem dX1_countStanding_0 : decode cX1_countStanding 0 = .ok (.iconst 0, 1) := by decide +kernel
theorem dX1_countStanding_1 : decode cX1_countStanding 1 = .ok (.istore_n 1, 1) := by decide +kernel
theorem dX1_countStanding_2 : decode cX1_countStanding 2 = .ok (.iconst 0, 1) := by decide +kernel
theorem dX1_countStanding_3 : decode cX1_countStanding 3 = .ok (.istore_n 2, 1) := by decide +kernel
theorem dX1_countStanding_4 : decode cX1_countStanding 4 = .ok (.iload_n 2, 1) := by decide +kernel
theorem dX1_countStanding_5 : decode cX1_countStanding 5 = .ok (.aload_n 0, 1) := by decide +kernel
theorem dX1_countStanding_6 : decode cX1_countStanding 6 = .ok (.getfield 16, 3) := by decide +kernel
theorem dX1_countStanding_9 : decode cX1_countStanding 9 = .ok (.invokevirtual 20, 3) := by decide +kernel
theorem dX1_countStanding_12 : decode cX1_countStanding 12 = .ok (.if_icmp .ge 29, 3) := by decide +kernel
theorem dX1_countStanding_15 : decode cX1_countStanding 15 = .ok (.aload_n 0, 1) := by decide +kernel
theorem dX1_countStanding_16 : decode cX1_countStanding 16 = .ok (.getfield 16, 3) := by decide +kernel
theorem dX1_countStanding_19 : decode cX1_countStanding 19 = .ok (.iload_n 2, 1) := by decide +kernel
theorem dX1_countStanding_20 : decode cX1_countStanding 20 = .ok (.invokevirtual 24, 3) := by decide +kernel
theorem dX1_countStanding_23 : decode cX1_countStanding 23 = .ok (.checkcast 28, 3) := by decide +kernel
theorem dX1_countStanding_26 : decode cX1_countStanding 26 = .ok (.getfield 55, 3) := by decide +kernel
theorem dX1_countStanding_29 : decode cX1_countStanding 29 = .ok (.ifCond .eq 6, 3) := by decide +kernel
theorem dX1_countStanding_32 : decode cX1_countStanding 32 = .ok (.iinc 1 1, 3) := by decide +kernel
theorem dX1_countStanding_35 : decode cX1_countStanding 35 = .ok (.iinc 2 1, 3) := by decide +kernel
theorem dX1_countStanding_38 : decode cX1_countStanding 38 = .ok (.goto (-34), 3) := by decide +kernel
theorem dX1_countStanding_41 : decode cX1_countStanding 41 = .ok (.iload_n 1, 1) := by decide +kernel
theorem dX1_countStanding_42 : decode cX1_countStanding 42 = .ok (.ireturn, 1) := by decide +kernel
theorem dX2_init_0 : decode cX2_init 0 = .ok (.aload_n 0, 1) := by decide +kernel
theorem dX2_init_1 : decode cX2_init 1 = .ok (.invokespecial 3, 3) := by decide +kernel
theorem dX2_init_4 : decode cX2_init 4 = .ok (.aload_n 0, 1) := by decide +kernel
theorem dX2_init_5 : decode cX2_init 5 = .ok (.iload_n 1, 1) := by decide +kernel
theorem dX2_init_6 : decode cX2_init 6 = .ok (.putfield 9, 3) := by decide +kernel
theorem dX2_init_9 : decode cX2_init 9 = .ok (.aload_n 0, 1) := by decide +kernel
theorem dX2_init_10 : decode cX2_init 10 = .ok (.iload_n 2, 1) := by decide +kernel
theorem dX2_init_11 : decode cX2_init 11 = .ok (.putfield 15, 3) := by decide +kernel
theorem dX2_init_14 : decode cX2_init 14 = .ok (.aload_n 0, 1) := by decide +kernel
theorem dX2_init_15 : decode cX2_init 15 = .ok (.iload_n 3, 1) := by decide +kernel
theorem dX2_init_16 : decode cX2_init 16 = .ok (.putfield 18, 3) := by decide +kernel
theorem dX2_init_19 : decode cX2_init 19 = .ok (.aload_n 0, 1) := by decide +kernel
theorem dX2_init_20 : decode cX2_init 20 = .ok (.iload 4, 2) := by decide +kernel
theorem dX2_init_22 : decode cX2_init 22 = .ok (.putfield 21, 3) := by decide +kernel
theorem dX2_init_25 : decode cX2_init 25 = .ok (.aload_n 0, 1) := by decide +kernel
theorem dX2_init_26 : decode cX2_init 26 = .ok (.iload_n 3, 1) := by decide +kernel
theorem dX2_init_27 : decode cX2_init 27 = .ok (.bipush 6, 2) := by decide +kernel
theorem dX2_init_29 : decode cX2_init 29 = .ok (.multianewarray 24 2, 4) := by decide +kernel
theorem dX2_init_33 : decode cX2_init 33 = .ok (.putfield 26, 3) := by decide +kernel
theorem dX2_init_36 : decode cX2_init 36 = .ok (.aload_n 0, 1) := by decide +kernel
theorem dX2_init_37 : decode cX2_init 37 = .ok (.iload_n 3, 1) := by decide +kernel
theorem dX2_init_38 : decode cX2_init 38 = .ok (.newarray .int, 2) := by decide +kernel
theorem dX2_init_40 : decode cX2_init 40 = .ok (.putfield 29, 3) := by decide +kernel
theorem dX2_init_43 : decode cX2_init 43 = .ok (.return_, 1) := by decide +kernel
theorem dX2_leavesOut_0 : decode cX2_leavesOut 0 = .ok (.aload_n 0, 1) := by decide +kernel
theorem dX2_leavesOut_1 : decode cX2_leavesOut 1 = .ok (.getfield 21, 3) := by decide +kernel
theorem dX2_leavesOut_4 : decode cX2_leavesOut 4 = .ok (.iload_n 1, 1) := by decide +kernel
theorem dX2_leavesOut_5 : decode cX2_leavesOut 5 = .ok (.invokestatic 33, 3) := by decide +kernel
theorem dX2_leavesOut_8 : decode cX2_leavesOut 8 = .ok (.ireturn, 1) := by decide +kernel
theorem dX2_takeFrom_0 : decode cX2_takeFrom 0 = .ok (.aload_n 0, 1) := by decide +kernel
theorem dX2_takeFrom_1 : decode cX2_takeFrom 1 = .ok (.aload_n 1, 1) := by decide +kernel
theorem dX2_takeFrom_2 : decode cX2_takeFrom 2 = .ok (.aload_n 0, 1) := by decide +kernel
theorem dX2_takeFrom_3 : decode cX2_takeFrom 3 = .ok (.getfield 15, 3) := by decide +kernel
theorem dX2_takeFrom_6 : decode cX2_takeFrom 6 = .ok (.invokevirtual 37, 3) := by decide +kernel
theorem dX2_takeFrom_9 : decode cX2_takeFrom 9 = .ok (.putfield 43, 3) := by decide +kernel
theorem dX2_takeFrom_12 : decode cX2_takeFrom 12 = .ok (.iconst 0, 1) := by decide +kernel
theorem dX2_takeFrom_13 : decode cX2_takeFrom 13 = .ok (.istore_n 2, 1) := by decide +kernel
theorem dX2_takeFrom_14 : decode cX2_takeFrom 14 = .ok (.iload_n 2, 1) := by decide +kernel
theorem dX2_takeFrom_15 : decode cX2_takeFrom 15 = .ok (.aload_n 0, 1) := by decide +kernel
theorem dX2_takeFrom_16 : decode cX2_takeFrom 16 = .ok (.getfield 18, 3) := by decide +kernel
theorem dX2_takeFrom_19 : decode cX2_takeFrom 19 = .ok (.if_icmp .ge 96, 3) := by decide +kernel
theorem dX2_takeFrom_22 : decode cX2_takeFrom 22 = .ok (.aload_n 1, 1) := by decide +kernel
theorem dX2_takeFrom_23 : decode cX2_takeFrom 23 = .ok (.aload_n 0, 1) := by decide +kernel
theorem dX2_takeFrom_24 : decode cX2_takeFrom 24 = .ok (.getfield 15, 3) := by decide +kernel
theorem dX2_takeFrom_27 : decode cX2_takeFrom 27 = .ok (.iload_n 2, 1) := by decide +kernel
theorem dX2_takeFrom_28 : decode cX2_takeFrom 28 = .ok (.iadd, 1) := by decide +kernel
theorem dX2_takeFrom_29 : decode cX2_takeFrom 29 = .ok (.invokevirtual 45, 3) := by decide +kernel
theorem dX2_takeFrom_32 : decode cX2_takeFrom 32 = .ok (.astore_n 3, 1) := by decide +kernel
theorem dX2_takeFrom_33 : decode cX2_takeFrom 33 = .ok (.aload_n 0, 1) := by decide +kernel
theorem dX2_takeFrom_34 : decode cX2_takeFrom 34 = .ok (.getfield 29, 3) := by decide +kernel
theorem dX2_takeFrom_37 : decode cX2_takeFrom 37 = .ok (.iload_n 2, 1) := by decide +kernel
theorem dX2_takeFrom_38 : decode cX2_takeFrom 38 = .ok (.aload_n 3, 1) := by decide +kernel
theorem dX2_takeFrom_39 : decode cX2_takeFrom 39 = .ok (.getfield 49, 3) := by decide +kernel
theorem dX2_takeFrom_42 : decode cX2_takeFrom 42 = .ok (.iastore, 1) := by decide +kernel
theorem dX2_takeFrom_43 : decode cX2_takeFrom 43 = .ok (.iconst 0, 1) := by decide +kernel
theorem dX2_takeFrom_44 : decode cX2_takeFrom 44 = .ok (.istore 4, 2) := by decide +kernel
theorem dX2_takeFrom_46 : decode cX2_takeFrom 46 = .ok (.iload 4, 2) := by decide +kernel
theorem dX2_takeFrom_48 : decode cX2_takeFrom 48 = .ok (.bipush 6, 2) := by decide +kernel
theorem dX2_takeFrom_50 : decode cX2_takeFrom 50 = .ok (.if_icmp .ge 59, 3) := by decide +kernel
theorem dX2_takeFrom_53 : decode cX2_takeFrom 53 = .ok (.aload_n 0, 1) := by decide +kernel
theorem dX2_takeFrom_54 : decode cX2_takeFrom 54 = .ok (.getfield 26, 3) := by decide +kernel
theorem dX2_takeFrom_57 : decode cX2_takeFrom 57 = .ok (.iload_n 2, 1) := by decide +kernel
theorem dX2_takeFrom_58 : decode cX2_takeFrom 58 = .ok (.aaload, 1) := by decide +kernel
theorem dX2_takeFrom_59 : decode cX2_takeFrom 59 = .ok (.iload 4, 2) := by decide +kernel
theorem dX2_takeFrom_61 : decode cX2_takeFrom 61 = .ok (.aload_n 0, 1) := by decide +kernel
theorem dX2_takeFrom_62 : decode cX2_takeFrom 62 = .ok (.iload 4, 2) := by decide +kernel
theorem dX2_takeFrom_64 : decode cX2_takeFrom 64 = .ok (.invokevirtual 54, 3) := by decide +kernel
theorem dX2_takeFrom_67 : decode cX2_takeFrom 67 = .ok (.ifCond .eq 28, 3) := by decide +kernel
theorem dX2_takeFrom_70 : decode cX2_takeFrom 70 = .ok (.aload_n 0, 1) := by decide +kernel
theorem dX2_takeFrom_71 : decode cX2_takeFrom 71 = .ok (.getfield 9, 3) := by decide +kernel
theorem dX2_takeFrom_74 : decode cX2_takeFrom 74 = .ok (.aload_n 0, 1) := by decide +kernel
theorem dX2_takeFrom_75 : decode cX2_takeFrom 75 = .ok (.getfield 15, 3) := by decide +kernel
theorem dX2_takeFrom_78 : decode cX2_takeFrom 78 = .ok (.iload_n 2, 1) := by decide +kernel
theorem dX2_takeFrom_79 : decode cX2_takeFrom 79 = .ok (.iadd, 1) := by decide +kernel
theorem dX2_takeFrom_80 : decode cX2_takeFrom 80 = .ok (.iload 4, 2) := by decide +kernel
theorem dX2_takeFrom_82 : decode cX2_takeFrom 82 = .ok (.aload_n 3, 1) := by decide +kernel
theorem dX2_takeFrom_83 : decode cX2_takeFrom 83 = .ok (.getfield 58, 3) := by decide +kernel
theorem dX2_takeFrom_86 : decode cX2_takeFrom 86 = .ok (.iload 4, 2) := by decide +kernel
theorem dX2_takeFrom_88 : decode cX2_takeFrom 88 = .ok (.iaload, 1) := by decide +kernel
theorem dX2_takeFrom_89 : decode cX2_takeFrom 89 = .ok (.invokestatic 60, 3) := by decide +kernel
theorem dX2_takeFrom_92 : decode cX2_takeFrom 92 = .ok (.goto 10, 3) := by decide +kernel
theorem dX2_takeFrom_95 : decode cX2_takeFrom 95 = .ok (.aload_n 3, 1) := by decide +kernel
theorem dX2_takeFrom_96 : decode cX2_takeFrom 96 = .ok (.getfield 58, 3) := by decide +kernel
theorem dX2_takeFrom_99 : decode cX2_takeFrom 99 = .ok (.iload 4, 2) := by decide +kernel
theorem dX2_takeFrom_101 : decode cX2_takeFrom 101 = .ok (.iaload, 1) := by decide +kernel
theorem dX2_takeFrom_102 : decode cX2_takeFrom 102 = .ok (.iastore, 1) := by decide +kernel
theorem dX2_takeFrom_103 : decode cX2_takeFrom 103 = .ok (.iinc 4 1, 3) := by decide +kernel
theorem dX2_takeFrom_106 : decode cX2_takeFrom 106 = .ok (.goto (-60), 3) := by decide +kernel
theorem dX2_takeFrom_109 : decode cX2_takeFrom 109 = .ok (.iinc 2 1, 3) := by decide +kernel
theorem dX2_takeFrom_112 : decode cX2_takeFrom 112 = .ok (.goto (-98), 3) := by decide +kernel
theorem dX2_takeFrom_115 : decode cX2_takeFrom 115 = .ok (.return_, 1) := by decide +kernel
theorem dX2_firstBroken_0 : decode cX2_firstBroken 0 = .ok (.aload_n 0, 1) := by decide +kernel
theorem dX2_firstBroken_1 : decode cX2_firstBroken 1 = .ok (.getfield 43, 3) := by decide +kernel
theorem dX2_firstBroken_4 : decode cX2_firstBroken 4 = .ok (.istore_n 1, 1) := by decide +kernel
theorem dX2_firstBroken_5 : decode cX2_firstBroken 5 = .ok (.iconst 0, 1) := by decide +kernel
theorem dX2_firstBroken_6 : decode cX2_firstBroken 6 = .ok (.istore_n 2, 1) := by decide +kernel
theorem dX2_firstBroken_7 : decode cX2_firstBroken 7 = .ok (.iload_n 2, 1) := by decide +kernel
theorem dX2_firstBroken_8 : decode cX2_firstBroken 8 = .ok (.aload_n 0, 1) := by decide +kernel
theorem dX2_firstBroken_9 : decode cX2_firstBroken 9 = .ok (.getfield 18, 3) := by decide +kernel
theorem dX2_firstBroken_12 : decode cX2_firstBroken 12 = .ok (.if_icmp .ge 51, 3) := by decide +kernel
theorem dX2_firstBroken_15 : decode cX2_firstBroken 15 = .ok (.iload_n 1, 1) := by decide +kernel
theorem dX2_firstBroken_16 : decode cX2_firstBroken 16 = .ok (.aload_n 0, 1) := by decide +kernel
theorem dX2_firstBroken_17 : decode cX2_firstBroken 17 = .ok (.getfield 9, 3) := by decide +kernel
theorem dX2_firstBroken_20 : decode cX2_firstBroken 20 = .ok (.aload_n 0, 1) := by decide +kernel
theorem dX2_firstBroken_21 : decode cX2_firstBroken 21 = .ok (.getfield 15, 3) := by decide +kernel
theorem dX2_firstBroken_24 : decode cX2_firstBroken 24 = .ok (.iload_n 2, 1) := by decide +kernel
theorem dX2_firstBroken_25 : decode cX2_firstBroken 25 = .ok (.iadd, 1) := by decide +kernel
theorem dX2_firstBroken_26 : decode cX2_firstBroken 26 = .ok (.aload_n 0, 1) := by decide +kernel
theorem dX2_firstBroken_27 : decode cX2_firstBroken 27 = .ok (.getfield 26, 3) := by decide +kernel
theorem dX2_firstBroken_30 : decode cX2_firstBroken 30 = .ok (.iload_n 2, 1) := by decide +kernel
theorem dX2_firstBroken_31 : decode cX2_firstBroken 31 = .ok (.aaload, 1) := by decide +kernel
theorem dX2_firstBroken_32 : decode cX2_firstBroken 32 = .ok (.aload_n 0, 1) := by decide +kernel
theorem dX2_firstBroken_33 : decode cX2_firstBroken 33 = .ok (.getfield 21, 3) := by decide +kernel
theorem dX2_firstBroken_36 : decode cX2_firstBroken 36 = .ok (.invokestatic 64, 3) := by decide +kernel
theorem dX2_firstBroken_39 : decode cX2_firstBroken 39 = .ok (.aload_n 0, 1) := by decide +kernel
theorem dX2_firstBroken_40 : decode cX2_firstBroken 40 = .ok (.getfield 29, 3) := by decide +kernel
theorem dX2_firstBroken_43 : decode cX2_firstBroken 43 = .ok (.iload_n 2, 1) := by decide +kernel
theorem dX2_firstBroken_44 : decode cX2_firstBroken 44 = .ok (.iaload, 1) := by decide +kernel
theorem dX2_firstBroken_45 : decode cX2_firstBroken 45 = .ok (.if_icmp .eq 5, 3) := by decide +kernel
theorem dX2_firstBroken_48 : decode cX2_firstBroken 48 = .ok (.iload_n 2, 1) := by decide +kernel
theorem dX2_firstBroken_49 : decode cX2_firstBroken 49 = .ok (.ireturn, 1) := by decide +kernel
theorem dX2_firstBroken_50 : decode cX2_firstBroken 50 = .ok (.aload_n 0, 1) := by decide +kernel
theorem dX2_firstBroken_51 : decode cX2_firstBroken 51 = .ok (.getfield 29, 3) := by decide +kernel
theorem dX2_firstBroken_54 : decode cX2_firstBroken 54 = .ok (.iload_n 2, 1) := by decide +kernel
theorem dX2_firstBroken_55 : decode cX2_firstBroken 55 = .ok (.iaload, 1) := by decide +kernel
theorem dX2_firstBroken_56 : decode cX2_firstBroken 56 = .ok (.istore_n 1, 1) := by decide +kernel
theorem dX2_firstBroken_57 : decode cX2_firstBroken 57 = .ok (.iinc 2 1, 3) := by decide +kernel
theorem dX2_firstBroken_60 : decode cX2_firstBroken 60 = .ok (.goto (-53), 3) := by decide +kernel
theorem dX2_firstBroken_63 : decode cX2_firstBroken 63 = .ok (.iconst (-1), 1) := by decide +kernel
theorem dX2_firstBroken_64 : decode cX2_firstBroken 64 = .ok (.ireturn, 1) := by decide +kernel
theorem dX2_tellsAs_0 : decode cX2_tellsAs 0 = .ok (.iconst 0, 1) := by decide +kernel
theorem dX2_tellsAs_1 : decode cX2_tellsAs 1 = .ok (.istore_n 2, 1) := by decide +kernel
theorem dX2_tellsAs_2 : decode cX2_tellsAs 2 = .ok (.iload_n 2, 1) := by decide +kernel
theorem dX2_tellsAs_3 : decode cX2_tellsAs 3 = .ok (.aload_n 0, 1) := by decide +kernel
theorem dX2_tellsAs_4 : decode cX2_tellsAs 4 = .ok (.getfield 18, 3) := by decide +kernel
theorem dX2_tellsAs_7 : decode cX2_tellsAs 7 = .ok (.if_icmp .ge 29, 3) := by decide +kernel
theorem dX2_tellsAs_10 : decode cX2_tellsAs 10 = .ok (.aload_n 0, 1) := by decide +kernel
theorem dX2_tellsAs_11 : decode cX2_tellsAs 11 = .ok (.iload_n 2, 1) := by decide +kernel
theorem dX2_tellsAs_12 : decode cX2_tellsAs 12 = .ok (.aload_n 1, 1) := by decide +kernel
theorem dX2_tellsAs_13 : decode cX2_tellsAs 13 = .ok (.aload_n 0, 1) := by decide +kernel
theorem dX2_tellsAs_14 : decode cX2_tellsAs 14 = .ok (.getfield 15, 3) := by decide +kernel
theorem dX2_tellsAs_17 : decode cX2_tellsAs 17 = .ok (.iload_n 2, 1) := by decide +kernel
theorem dX2_tellsAs_18 : decode cX2_tellsAs 18 = .ok (.iadd, 1) := by decide +kernel
theorem dX2_tellsAs_19 : decode cX2_tellsAs 19 = .ok (.invokevirtual 45, 3) := by decide +kernel
theorem dX2_tellsAs_22 : decode cX2_tellsAs 22 = .ok (.invokevirtual 68, 3) := by decide +kernel
theorem dX2_tellsAs_25 : decode cX2_tellsAs 25 = .ok (.ifCond .ne 5, 3) := by decide +kernel
theorem dX2_tellsAs_28 : decode cX2_tellsAs 28 = .ok (.iconst 0, 1) := by decide +kernel
theorem dX2_tellsAs_29 : decode cX2_tellsAs 29 = .ok (.ireturn, 1) := by decide +kernel
theorem dX2_tellsAs_30 : decode cX2_tellsAs 30 = .ok (.iinc 2 1, 3) := by decide +kernel
theorem dX2_tellsAs_33 : decode cX2_tellsAs 33 = .ok (.goto (-31), 3) := by decide +kernel
theorem dX2_tellsAs_36 : decode cX2_tellsAs 36 = .ok (.iconst 1, 1) := by decide +kernel
theorem dX2_tellsAs_37 : decode cX2_tellsAs 37 = .ok (.ireturn, 1) := by decide +kernel
theorem dX2_tellsRecordAs_0 : decode cX2_tellsRecordAs 0 = .ok (.aload_n 0, 1) := by decide +kernel
theorem dX2_tellsRecordAs_1 : decode cX2_tellsRecordAs 1 = .ok (.getfield 29, 3) := by decide +kernel
theorem dX2_tellsRecordAs_4 : decode cX2_tellsRecordAs 4 = .ok (.iload_n 1, 1) := by decide +kernel
theorem dX2_tellsRecordAs_5 : decode cX2_tellsRecordAs 5 = .ok (.iaload, 1) := by decide +kernel
theorem dX2_tellsRecordAs_6 : decode cX2_tellsRecordAs 6 = .ok (.aload_n 2, 1) := by decide +kernel
theorem dX2_tellsRecordAs_7 : decode cX2_tellsRecordAs 7 = .ok (.getfield 49, 3) := by decide +kernel
theorem dX2_tellsRecordAs_10 : decode cX2_tellsRecordAs 10 = .ok (.if_icmp .eq 5, 3) := by decide +kernel
theorem dX2_tellsRecordAs_13 : decode cX2_tellsRecordAs 13 = .ok (.iconst 0, 1) := by decide +kernel
theorem dX2_tellsRecordAs_14 : decode cX2_tellsRecordAs 14 = .ok (.ireturn, 1) := by decide +kernel
theorem dX2_tellsRecordAs_15 : decode cX2_tellsRecordAs 15 = .ok (.iconst 0, 1) := by decide +kernel
theorem dX2_tellsRecordAs_16 : decode cX2_tellsRecordAs 16 = .ok (.istore_n 3, 1) := by decide +kernel
theorem dX2_tellsRecordAs_17 : decode cX2_tellsRecordAs 17 = .ok (.iload_n 3, 1) := by decide +kernel
theorem dX2_tellsRecordAs_18 : decode cX2_tellsRecordAs 18 = .ok (.bipush 6, 2) := by decide +kernel
theorem dX2_tellsRecordAs_20 : decode cX2_tellsRecordAs 20 = .ok (.if_icmp .ge 36, 3) := by decide +kernel
theorem dX2_tellsRecordAs_23 : decode cX2_tellsRecordAs 23 = .ok (.aload_n 0, 1) := by decide +kernel
theorem dX2_tellsRecordAs_24 : decode cX2_tellsRecordAs 24 = .ok (.iload_n 3, 1) := by decide +kernel
theorem dX2_tellsRecordAs_25 : decode cX2_tellsRecordAs 25 = .ok (.invokevirtual 54, 3) := by decide +kernel
theorem dX2_tellsRecordAs_28 : decode cX2_tellsRecordAs 28 = .ok (.ifCond .ne 22, 3) := by decide +kernel
theorem dX2_tellsRecordAs_31 : decode cX2_tellsRecordAs 31 = .ok (.aload_n 0, 1) := by decide +kernel
theorem dX2_tellsRecordAs_32 : decode cX2_tellsRecordAs 32 = .ok (.getfield 26, 3) := by decide +kernel
theorem dX2_tellsRecordAs_35 : decode cX2_tellsRecordAs 35 = .ok (.iload_n 1, 1) := by decide +kernel
theorem dX2_tellsRecordAs_36 : decode cX2_tellsRecordAs 36 = .ok (.aaload, 1) := by decide +kernel
theorem dX2_tellsRecordAs_37 : decode cX2_tellsRecordAs 37 = .ok (.iload_n 3, 1) := by decide +kernel
theorem dX2_tellsRecordAs_38 : decode cX2_tellsRecordAs 38 = .ok (.iaload, 1) := by decide +kernel
theorem dX2_tellsRecordAs_39 : decode cX2_tellsRecordAs 39 = .ok (.aload_n 2, 1) := by decide +kernel
theorem dX2_tellsRecordAs_40 : decode cX2_tellsRecordAs 40 = .ok (.getfield 58, 3) := by decide +kernel
theorem dX2_tellsRecordAs_43 : decode cX2_tellsRecordAs 43 = .ok (.iload_n 3, 1) := by decide +kernel
theorem dX2_tellsRecordAs_44 : decode cX2_tellsRecordAs 44 = .ok (.iaload, 1) := by decide +kernel
theorem dX2_tellsRecordAs_45 : decode cX2_tellsRecordAs 45 = .ok (.if_icmp .eq 5, 3) := by decide +kernel
theorem dX2_tellsRecordAs_48 : decode cX2_tellsRecordAs 48 = .ok (.iconst 0, 1) := by decide +kernel
theorem dX2_tellsRecordAs_49 : decode cX2_tellsRecordAs 49 = .ok (.ireturn, 1) := by decide +kernel
theorem dX2_tellsRecordAs_50 : decode cX2_tellsRecordAs 50 = .ok (.iinc 3 1, 3) := by decide +kernel
theorem dX2_tellsRecordAs_53 : decode cX2_tellsRecordAs 53 = .ok (.goto (-36), 3) := by decide +kernel
theorem dX2_tellsRecordAs_56 : decode cX2_tellsRecordAs 56 = .ok (.iconst 1, 1) := by decide +kernel
theorem dX2_tellsRecordAs_57 : decode cX2_tellsRecordAs 57 = .ok (.ireturn, 1) := by decide +kernel
theorem dX3_init_0 : decode cX3_init 0 = .ok (.aload_n 0, 1) := by decide +kernel
theorem dX3_init_1 : decode cX3_init 1 = .ok (.invokespecial 1, 3) := by decide +kernel
theorem dX3_init_4 : decode cX3_init 4 = .ok (.aload_n 0, 1) := by decide +kernel
theorem dX3_init_5 : decode cX3_init 5 = .ok (.iload_n 1, 1) := by decide +kernel
theorem dX3_init_6 : decode cX3_init 6 = .ok (.putfield 7, 3) := by decide +kernel
theorem dX3_init_9 : decode cX3_init 9 = .ok (.aload_n 0, 1) := by decide +kernel
theorem dX3_init_10 : decode cX3_init 10 = .ok (.iload_n 2, 1) := by decide +kernel
theorem dX3_init_11 : decode cX3_init 11 = .ok (.putfield 13, 3) := by decide +kernel
theorem dX3_init_14 : decode cX3_init 14 = .ok (.aload_n 0, 1) := by decide +kernel
theorem dX3_init_15 : decode cX3_init 15 = .ok (.iload_n 3, 1) := by decide +kernel
theorem dX3_init_16 : decode cX3_init 16 = .ok (.putfield 16, 3) := by decide +kernel
theorem dX3_init_19 : decode cX3_init 19 = .ok (.aload_n 0, 1) := by decide +kernel
theorem dX3_init_20 : decode cX3_init 20 = .ok (.iload 4, 2) := by decide +kernel
theorem dX3_init_22 : decode cX3_init 22 = .ok (.putfield 19, 3) := by decide +kernel
theorem dX3_init_25 : decode cX3_init 25 = .ok (.aload_n 0, 1) := by decide +kernel
theorem dX3_init_26 : decode cX3_init 26 = .ok (.iload 5, 2) := by decide +kernel
theorem dX3_init_28 : decode cX3_init 28 = .ok (.putfield 22, 3) := by decide +kernel
theorem dX3_init_31 : decode cX3_init 31 = .ok (.aload_n 0, 1) := by decide +kernel
theorem dX3_init_32 : decode cX3_init 32 = .ok (.iload 6, 2) := by decide +kernel
theorem dX3_init_34 : decode cX3_init 34 = .ok (.putfield 25, 3) := by decide +kernel
theorem dX3_init_37 : decode cX3_init 37 = .ok (.return_, 1) := by decide +kernel
theorem dX4_init_0 : decode cX4_init 0 = .ok (.aload_n 0, 1) := by decide +kernel
theorem dX4_init_1 : decode cX4_init 1 = .ok (.invokespecial 1, 3) := by decide +kernel
theorem dX4_init_4 : decode cX4_init 4 = .ok (.aload_n 0, 1) := by decide +kernel
theorem dX4_init_5 : decode cX4_init 5 = .ok (.iload_n 1, 1) := by decide +kernel
theorem dX4_init_6 : decode cX4_init 6 = .ok (.putfield 7, 3) := by decide +kernel
theorem dX4_init_9 : decode cX4_init 9 = .ok (.aload_n 0, 1) := by decide +kernel
theorem dX4_init_10 : decode cX4_init 10 = .ok (.iload_n 2, 1) := by decide +kernel
theorem dX4_init_11 : decode cX4_init 11 = .ok (.putfield 13, 3) := by decide +kernel
theorem dX4_init_14 : decode cX4_init 14 = .ok (.aload_n 0, 1) := by decide +kernel
theorem dX4_init_15 : decode cX4_init 15 = .ok (.iload_n 3, 1) := by decide +kernel
theorem dX4_init_16 : decode cX4_init 16 = .ok (.putfield 16, 3) := by decide +kernel
theorem dX4_init_19 : decode cX4_init 19 = .ok (.return_, 1) := by decide +kernel
theorem dX4_isDeputation_0 : decode cX4_isDeputation 0 = .ok (.iload_n 1, 1) := by decide +kernel
theorem dX4_isDeputation_1 : decode cX4_isDeputation 1 = .ok (.aload_n 0, 1) := by decide +kernel
theorem dX4_isDeputation_2 : decode cX4_isDeputation 2 = .ok (.getfield 7, 3) := by decide +kernel
theorem dX4_isDeputation_5 : decode cX4_isDeputation 5 = .ok (.if_icmp .ne 23, 3) := by decide +kernel
theorem dX4_isDeputation_8 : decode cX4_isDeputation 8 = .ok (.iload_n 2, 1) := by decide +kernel
theorem dX4_isDeputation_9 : decode cX4_isDeputation 9 = .ok (.aload_n 0, 1) := by decide +kernel
theorem dX4_isDeputation_10 : decode cX4_isDeputation 10 = .ok (.getfield 16, 3) := by decide +kernel
theorem dX4_isDeputation_13 : decode cX4_isDeputation 13 = .ok (.if_icmp .gt 15, 3) := by decide +kernel
theorem dX4_isDeputation_16 : decode cX4_isDeputation 16 = .ok (.aload_n 0, 1) := by decide +kernel
theorem dX4_isDeputation_17 : decode cX4_isDeputation 17 = .ok (.getfield 13, 3) := by decide +kernel
theorem dX4_isDeputation_20 : decode cX4_isDeputation 20 = .ok (.iload_n 3, 1) := by decide +kernel
theorem dX4_isDeputation_21 : decode cX4_isDeputation 21 = .ok (.if_icmp .gt 7, 3) := by decide +kernel
theorem dX4_isDeputation_24 : decode cX4_isDeputation 24 = .ok (.iconst 1, 1) := by decide +kernel
theorem dX4_isDeputation_25 : decode cX4_isDeputation 25 = .ok (.goto 4, 3) := by decide +kernel
theorem dX4_isDeputation_28 : decode cX4_isDeputation 28 = .ok (.iconst 0, 1) := by decide +kernel
theorem dX4_isDeputation_29 : decode cX4_isDeputation 29 = .ok (.ireturn, 1) := by decide +kernel
theorem dX5_init_0 : decode cX5_init 0 = .ok (.aload_n 0, 1) := by decide +kernel
theorem dX5_init_1 : decode cX5_init 1 = .ok (.invokespecial 1, 3) := by decide +kernel
theorem dX5_init_4 : decode cX5_init 4 = .ok (.aload_n 0, 1) := by decide +kernel
theorem dX5_init_5 : decode cX5_init 5 = .ok (.iload_n 1, 1) := by decide +kernel
theorem dX5_init_6 : decode cX5_init 6 = .ok (.putfield 7, 3) := by decide +kernel
theorem dX5_init_9 : decode cX5_init 9 = .ok (.aload_n 0, 1) := by decide +kernel
theorem dX5_init_10 : decode cX5_init 10 = .ok (.iload_n 2, 1) := by decide +kernel
theorem dX5_init_11 : decode cX5_init 11 = .ok (.putfield 13, 3) := by decide +kernel
theorem dX5_init_14 : decode cX5_init 14 = .ok (.aload_n 0, 1) := by decide +kernel
theorem dX5_init_15 : decode cX5_init 15 = .ok (.iload_n 3, 1) := by decide +kernel
theorem dX5_init_16 : decode cX5_init 16 = .ok (.putfield 16, 3) := by decide +kernel
theorem dX5_init_19 : decode cX5_init 19 = .ok (.aload_n 0, 1) := by decide +kernel
theorem dX5_init_20 : decode cX5_init 20 = .ok (.iload 4, 2) := by decide +kernel
theorem dX5_init_22 : decode cX5_init 22 = .ok (.putfield 19, 3) := by decide +kernel
theorem dX5_init_25 : decode cX5_init 25 = .ok (.aload_n 0, 1) := by decide +kernel
theorem dX5_init_26 : decode cX5_init 26 = .ok (.iload 5, 2) := by decide +kernel
theorem dX5_init_28 : decode cX5_init 28 = .ok (.putfield 22, 3) := by decide +kernel
theorem dX5_init_31 : decode cX5_init 31 = .ok (.return_, 1) := by decide +kernel
theorem dX6_init_0 : decode cX6_init 0 = .ok (.aload_n 0, 1) := by decide +kernel
theorem dX6_init_1 : decode cX6_init 1 = .ok (.invokespecial 3, 3) := by decide +kernel
theorem dX6_init_4 : decode cX6_init 4 = .ok (.aload_n 0, 1) := by decide +kernel
theorem dX6_init_5 : decode cX6_init 5 = .ok (.bipush 6, 2) := by decide +kernel
theorem dX6_init_7 : decode cX6_init 7 = .ok (.newarray .int, 2) := by decide +kernel
theorem dX6_init_9 : decode cX6_init 9 = .ok (.putfield 9, 3) := by decide +kernel
theorem dX6_init_12 : decode cX6_init 12 = .ok (.aload_n 0, 1) := by decide +kernel
theorem dX6_init_13 : decode cX6_init 13 = .ok (.sipush 2406, 3) := by decide +kernel
theorem dX6_init_16 : decode cX6_init 16 = .ok (.newarray .int, 2) := by decide +kernel
theorem dX6_init_18 : decode cX6_init 18 = .ok (.putfield 15, 3) := by decide +kernel
theorem dX6_init_21 : decode cX6_init 21 = .ok (.return_, 1) := by decide +kernel
theorem dX6_areLinked_0 : decode cX6_areLinked 0 = .ok (.aload_n 0, 1) := by decide +kernel
theorem dX6_areLinked_1 : decode cX6_areLinked 1 = .ok (.getfield 9, 3) := by decide +kernel
theorem dX6_areLinked_4 : decode cX6_areLinked 4 = .ok (.iload_n 1, 1) := by decide +kernel
theorem dX6_areLinked_5 : decode cX6_areLinked 5 = .ok (.iaload, 1) := by decide +kernel
theorem dX6_areLinked_6 : decode cX6_areLinked 6 = .ok (.iload_n 2, 1) := by decide +kernel
theorem dX6_areLinked_7 : decode cX6_areLinked 7 = .ok (.invokestatic 18, 3) := by decide +kernel
theorem dX6_areLinked_10 : decode cX6_areLinked 10 = .ok (.ireturn, 1) := by decide +kernel
theorem dX6_degree_0 : decode cX6_degree 0 = .ok (.aload_n 0, 1) := by decide +kernel
theorem dX6_degree_1 : decode cX6_degree 1 = .ok (.getfield 9, 3) := by decide +kernel
theorem dX6_degree_4 : decode cX6_degree 4 = .ok (.iload_n 1, 1) := by decide +kernel
theorem dX6_degree_5 : decode cX6_degree 5 = .ok (.iaload, 1) := by decide +kernel
theorem dX6_degree_6 : decode cX6_degree 6 = .ok (.invokestatic 22, 3) := by decide +kernel
theorem dX6_degree_9 : decode cX6_degree 9 = .ok (.ireturn, 1) := by decide +kernel
theorem dX6_turn_0 : decode cX6_turn 0 = .ok (.aload_n 0, 1) := by decide +kernel
theorem dX6_turn_1 : decode cX6_turn 1 = .ok (.getfield 9, 3) := by decide +kernel
theorem dX6_turn_4 : decode cX6_turn 4 = .ok (.iload_n 1, 1) := by decide +kernel
theorem dX6_turn_5 : decode cX6_turn 5 = .ok (.dup2, 1) := by decide +kernel
theorem dX6_turn_6 : decode cX6_turn 6 = .ok (.iaload, 1) := by decide +kernel
theorem dX6_turn_7 : decode cX6_turn 7 = .ok (.iload_n 2, 1) := by decide +kernel
theorem dX6_turn_8 : decode cX6_turn 8 = .ok (.invokestatic 28, 3) := by decide +kernel
theorem dX6_turn_11 : decode cX6_turn 11 = .ok (.ixor, 1) := by decide +kernel
theorem dX6_turn_12 : decode cX6_turn 12 = .ok (.iastore, 1) := by decide +kernel
theorem dX6_turn_13 : decode cX6_turn 13 = .ok (.aload_n 0, 1) := by decide +kernel
theorem dX6_turn_14 : decode cX6_turn 14 = .ok (.getfield 9, 3) := by decide +kernel
theorem dX6_turn_17 : decode cX6_turn 17 = .ok (.iload_n 2, 1) := by decide +kernel
theorem dX6_turn_18 : decode cX6_turn 18 = .ok (.dup2, 1) := by decide +kernel
theorem dX6_turn_19 : decode cX6_turn 19 = .ok (.iaload, 1) := by decide +kernel
theorem dX6_turn_20 : decode cX6_turn 20 = .ok (.iload_n 1, 1) := by decide +kernel
theorem dX6_turn_21 : decode cX6_turn 21 = .ok (.invokestatic 28, 3) := by decide +kernel
theorem dX6_turn_24 : decode cX6_turn 24 = .ok (.ixor, 1) := by decide +kernel
theorem dX6_turn_25 : decode cX6_turn 25 = .ok (.iastore, 1) := by decide +kernel
theorem dX6_turn_26 : decode cX6_turn 26 = .ok (.return_, 1) := by decide +kernel
theorem dX6_keep_0 : decode cX6_keep 0 = .ok (.aload_n 0, 1) := by decide +kernel
theorem dX6_keep_1 : decode cX6_keep 1 = .ok (.getfield 9, 3) := by decide +kernel
theorem dX6_keep_4 : decode cX6_keep 4 = .ok (.iconst 0, 1) := by decide +kernel
theorem dX6_keep_5 : decode cX6_keep 5 = .ok (.aload_n 0, 1) := by decide +kernel
theorem dX6_keep_6 : decode cX6_keep 6 = .ok (.getfield 15, 3) := by decide +kernel
theorem dX6_keep_9 : decode cX6_keep 9 = .ok (.iload_n 1, 1) := by decide +kernel
theorem dX6_keep_10 : decode cX6_keep 10 = .ok (.bipush 6, 2) := by decide +kernel
theorem dX6_keep_12 : decode cX6_keep 12 = .ok (.imul, 1) := by decide +kernel
theorem dX6_keep_13 : decode cX6_keep 13 = .ok (.bipush 6, 2) := by decide +kernel
theorem dX6_keep_15 : decode cX6_keep 15 = .ok (.invokestatic 31, 3) := by decide +kernel
theorem dX6_keep_18 : decode cX6_keep 18 = .ok (.return_, 1) := by decide +kernel
theorem dX6_reach_0 : decode cX6_reach 0 = .ok (.iload_n 1, 1) := by decide +kernel
theorem dX6_reach_1 : decode cX6_reach 1 = .ok (.istore_n 3, 1) := by decide +kernel
theorem dX6_reach_2 : decode cX6_reach 2 = .ok (.iconst 0, 1) := by decide +kernel
theorem dX6_reach_3 : decode cX6_reach 3 = .ok (.istore 4, 2) := by decide +kernel
theorem dX6_reach_5 : decode cX6_reach 5 = .ok (.iload 4, 2) := by decide +kernel
theorem dX6_reach_7 : decode cX6_reach 7 = .ok (.bipush 6, 2) := by decide +kernel
theorem dX6_reach_9 : decode cX6_reach 9 = .ok (.if_icmp .ge 33, 3) := by decide +kernel
theorem dX6_reach_12 : decode cX6_reach 12 = .ok (.iload_n 1, 1) := by decide +kernel
theorem dX6_reach_13 : decode cX6_reach 13 = .ok (.iload 4, 2) := by decide +kernel
theorem dX6_reach_15 : decode cX6_reach 15 = .ok (.invokestatic 18, 3) := by decide +kernel
theorem dX6_reach_18 : decode cX6_reach 18 = .ok (.ifCond .eq 18, 3) := by decide +kernel
theorem dX6_reach_21 : decode cX6_reach 21 = .ok (.iload_n 3, 1) := by decide +kernel
theorem dX6_reach_22 : decode cX6_reach 22 = .ok (.aload_n 0, 1) := by decide +kernel
theorem dX6_reach_23 : decode cX6_reach 23 = .ok (.getfield 15, 3) := by decide +kernel
theorem dX6_reach_26 : decode cX6_reach 26 = .ok (.iload_n 2, 1) := by decide +kernel
theorem dX6_reach_27 : decode cX6_reach 27 = .ok (.bipush 6, 2) := by decide +kernel
theorem dX6_reach_29 : decode cX6_reach 29 = .ok (.imul, 1) := by decide +kernel
theorem dX6_reach_30 : decode cX6_reach 30 = .ok (.iload 4, 2) := by decide +kernel
theorem dX6_reach_32 : decode cX6_reach 32 = .ok (.iadd, 1) := by decide +kernel
theorem dX6_reach_33 : decode cX6_reach 33 = .ok (.iaload, 1) := by decide +kernel
theorem dX6_reach_34 : decode cX6_reach 34 = .ok (.ior, 1) := by decide +kernel
theorem dX6_reach_35 : decode cX6_reach 35 = .ok (.istore_n 3, 1) := by decide +kernel
theorem dX6_reach_36 : decode cX6_reach 36 = .ok (.iinc 4 1, 3) := by decide +kernel
theorem dX6_reach_39 : decode cX6_reach 39 = .ok (.goto (-34), 3) := by decide +kernel
theorem dX6_reach_42 : decode cX6_reach 42 = .ok (.iload_n 3, 1) := by decide +kernel
theorem dX6_reach_43 : decode cX6_reach 43 = .ok (.ireturn, 1) := by decide +kernel
theorem dX7_init_0 : decode cX7_init 0 = .ok (.aload_n 0, 1) := by decide +kernel
theorem dX7_init_1 : decode cX7_init 1 = .ok (.invokespecial 3, 3) := by decide +kernel
theorem dX7_init_4 : decode cX7_init 4 = .ok (.aload_n 0, 1) := by decide +kernel
theorem dX7_init_5 : decode cX7_init 5 = .ok (.new 9, 3) := by decide +kernel
theorem dX7_init_8 : decode cX7_init 8 = .ok (.dup, 1) := by decide +kernel
theorem dX7_init_9 : decode cX7_init 9 = .ok (.invokespecial 11, 3) := by decide +kernel
theorem dX7_init_12 : decode cX7_init 12 = .ok (.putfield 12, 3) := by decide +kernel
theorem dX7_init_15 : decode cX7_init 15 = .ok (.aload_n 0, 1) := by decide +kernel
theorem dX7_init_16 : decode cX7_init 16 = .ok (.sipush 160, 3) := by decide +kernel
theorem dX7_init_19 : decode cX7_init 19 = .ok (.newarray .boolean, 2) := by decide +kernel
theorem dX7_init_21 : decode cX7_init 21 = .ok (.putfield 18, 3) := by decide +kernel
theorem dX7_init_24 : decode cX7_init 24 = .ok (.return_, 1) := by decide +kernel
theorem dX7_count_0 : decode cX7_count 0 = .ok (.aload_n 0, 1) := by decide +kernel
theorem dX7_count_1 : decode cX7_count 1 = .ok (.getfield 12, 3) := by decide +kernel
theorem dX7_count_4 : decode cX7_count 4 = .ok (.invokevirtual 22, 3) := by decide +kernel
theorem dX7_count_7 : decode cX7_count 7 = .ok (.ireturn, 1) := by decide +kernel
theorem dX7_pieceAt_0 : decode cX7_pieceAt 0 = .ok (.aload_n 0, 1) := by decide +kernel
theorem dX7_pieceAt_1 : decode cX7_pieceAt 1 = .ok (.getfield 12, 3) := by decide +kernel
theorem dX7_pieceAt_4 : decode cX7_pieceAt 4 = .ok (.iload_n 1, 1) := by decide +kernel
theorem dX7_pieceAt_5 : decode cX7_pieceAt 5 = .ok (.invokevirtual 26, 3) := by decide +kernel
theorem dX7_pieceAt_8 : decode cX7_pieceAt 8 = .ok (.checkcast 30, 3) := by decide +kernel
theorem dX7_pieceAt_11 : decode cX7_pieceAt 11 = .ok (.areturn, 1) := by decide +kernel
theorem dX7_publish_0 : decode cX7_publish 0 = .ok (.aload_n 1, 1) := by decide +kernel
theorem dX7_publish_1 : decode cX7_publish 1 = .ok (.aload_n 0, 1) := by decide +kernel
theorem dX7_publish_2 : decode cX7_publish 2 = .ok (.getfield 12, 3) := by decide +kernel
theorem dX7_publish_5 : decode cX7_publish 5 = .ok (.invokevirtual 22, 3) := by decide +kernel
theorem dX7_publish_8 : decode cX7_publish 8 = .ok (.putfield 32, 3) := by decide +kernel
theorem dX7_publish_11 : decode cX7_publish 11 = .ok (.aload_n 1, 1) := by decide +kernel
theorem dX7_publish_12 : decode cX7_publish 12 = .ok (.iload_n 2, 1) := by decide +kernel
theorem dX7_publish_13 : decode cX7_publish 13 = .ok (.putfield 36, 3) := by decide +kernel
theorem dX7_publish_16 : decode cX7_publish 16 = .ok (.aload_n 1, 1) := by decide +kernel
theorem dX7_publish_17 : decode cX7_publish 17 = .ok (.iload_n 3, 1) := by decide +kernel
theorem dX7_publish_18 : decode cX7_publish 18 = .ok (.putfield 39, 3) := by decide +kernel
theorem dX7_publish_21 : decode cX7_publish 21 = .ok (.aload_n 1, 1) := by decide +kernel
theorem dX7_publish_22 : decode cX7_publish 22 = .ok (.iload_n 2, 1) := by decide +kernel
theorem dX7_publish_23 : decode cX7_publish 23 = .ok (.iload_n 3, 1) := by decide +kernel
theorem dX7_publish_24 : decode cX7_publish 24 = .ok (.invokevirtual 42, 3) := by decide +kernel
theorem dX7_publish_27 : decode cX7_publish 27 = .ok (.aload_n 1, 1) := by decide +kernel
theorem dX7_publish_28 : decode cX7_publish 28 = .ok (.iload_n 2, 1) := by decide +kernel
theorem dX7_publish_29 : decode cX7_publish 29 = .ok (.invokestatic 46, 3) := by decide +kernel
theorem dX7_publish_32 : decode cX7_publish 32 = .ok (.putfield 50, 3) := by decide +kernel
theorem dX7_publish_35 : decode cX7_publish 35 = .ok (.aload_n 0, 1) := by decide +kernel
theorem dX7_publish_36 : decode cX7_publish 36 = .ok (.getfield 12, 3) := by decide +kernel
theorem dX7_publish_39 : decode cX7_publish 39 = .ok (.aload_n 1, 1) := by decide +kernel
theorem dX7_publish_40 : decode cX7_publish 40 = .ok (.invokevirtual 53, 3) := by decide +kernel
theorem dX7_publish_43 : decode cX7_publish 43 = .ok (.pop, 1) := by decide +kernel
theorem dX7_publish_44 : decode cX7_publish 44 = .ok (.aload_n 1, 1) := by decide +kernel
theorem dX7_publish_45 : decode cX7_publish 45 = .ok (.getfield 32, 3) := by decide +kernel
theorem dX7_publish_48 : decode cX7_publish 48 = .ok (.ireturn, 1) := by decide +kernel
theorem dX7_spread_0 : decode cX7_spread 0 = .ok (.iconst 0, 1) := by decide +kernel
theorem dX7_spread_1 : decode cX7_spread 1 = .ok (.istore_n 3, 1) := by decide +kernel
theorem dX7_spread_2 : decode cX7_spread 2 = .ok (.iconst 0, 1) := by decide +kernel
theorem dX7_spread_3 : decode cX7_spread 3 = .ok (.istore 4, 2) := by decide +kernel
theorem dX7_spread_5 : decode cX7_spread 5 = .ok (.iload 4, 2) := by decide +kernel
theorem dX7_spread_7 : decode cX7_spread 7 = .ok (.aload_n 0, 1) := by decide +kernel
theorem dX7_spread_8 : decode cX7_spread 8 = .ok (.getfield 12, 3) := by decide +kernel
theorem dX7_spread_11 : decode cX7_spread 11 = .ok (.invokevirtual 22, 3) := by decide +kernel
theorem dX7_spread_14 : decode cX7_spread 14 = .ok (.if_icmp .ge 85, 3) := by decide +kernel
theorem dX7_spread_17 : decode cX7_spread 17 = .ok (.aload_n 0, 1) := by decide +kernel
theorem dX7_spread_18 : decode cX7_spread 18 = .ok (.getfield 12, 3) := by decide +kernel
theorem dX7_spread_21 : decode cX7_spread 21 = .ok (.iload 4, 2) := by decide +kernel
theorem dX7_spread_23 : decode cX7_spread 23 = .ok (.invokevirtual 26, 3) := by decide +kernel
theorem dX7_spread_26 : decode cX7_spread 26 = .ok (.checkcast 30, 3) := by decide +kernel
theorem dX7_spread_29 : decode cX7_spread 29 = .ok (.astore 5, 2) := by decide +kernel
theorem dX7_spread_31 : decode cX7_spread 31 = .ok (.aload_n 1, 1) := by decide +kernel
theorem dX7_spread_32 : decode cX7_spread 32 = .ok (.aload 5, 2) := by decide +kernel
theorem dX7_spread_34 : decode cX7_spread 34 = .ok (.getfield 57, 3) := by decide +kernel
theorem dX7_spread_37 : decode cX7_spread 37 = .ok (.iload_n 2, 1) := by decide +kernel
theorem dX7_spread_38 : decode cX7_spread 38 = .ok (.invokevirtual 60, 3) := by decide +kernel
theorem dX7_spread_41 : decode cX7_spread 41 = .ok (.aload 5, 2) := by decide +kernel
theorem dX7_spread_43 : decode cX7_spread 43 = .ok (.getfield 57, 3) := by decide +kernel
theorem dX7_spread_46 : decode cX7_spread 46 = .ok (.iconst (-1), 1) := by decide +kernel
theorem dX7_spread_47 : decode cX7_spread 47 = .ok (.ixor, 1) := by decide +kernel
theorem dX7_spread_48 : decode cX7_spread 48 = .ok (.iand, 1) := by decide +kernel
theorem dX7_spread_49 : decode cX7_spread 49 = .ok (.istore 6, 2) := by decide +kernel
theorem dX7_spread_51 : decode cX7_spread 51 = .ok (.iconst 0, 1) := by decide +kernel
theorem dX7_spread_52 : decode cX7_spread 52 = .ok (.istore 7, 2) := by decide +kernel
theorem dX7_spread_54 : decode cX7_spread 54 = .ok (.iload 7, 2) := by decide +kernel
theorem dX7_spread_56 : decode cX7_spread 56 = .ok (.bipush 6, 2) := by decide +kernel
theorem dX7_spread_58 : decode cX7_spread 58 = .ok (.if_icmp .ge 27, 3) := by decide +kernel
theorem dX7_spread_61 : decode cX7_spread 61 = .ok (.iload 6, 2) := by decide +kernel
theorem dX7_spread_63 : decode cX7_spread 63 = .ok (.iload 7, 2) := by decide +kernel
theorem dX7_spread_65 : decode cX7_spread 65 = .ok (.invokestatic 66, 3) := by decide +kernel
theorem dX7_spread_68 : decode cX7_spread 68 = .ok (.ifCond .eq 11, 3) := by decide +kernel
theorem dX7_spread_71 : decode cX7_spread 71 = .ok (.aload 5, 2) := by decide +kernel
theorem dX7_spread_73 : decode cX7_spread 73 = .ok (.iload 7, 2) := by decide +kernel
theorem dX7_spread_75 : decode cX7_spread 75 = .ok (.iload_n 2, 1) := by decide +kernel
theorem dX7_spread_76 : decode cX7_spread 76 = .ok (.invokevirtual 42, 3) := by decide +kernel
theorem dX7_spread_79 : decode cX7_spread 79 = .ok (.iinc 7 1, 3) := by decide +kernel
theorem dX7_spread_82 : decode cX7_spread 82 = .ok (.goto (-28), 3) := by decide +kernel
theorem dX7_spread_85 : decode cX7_spread 85 = .ok (.iload_n 3, 1) := by decide +kernel
theorem dX7_spread_86 : decode cX7_spread 86 = .ok (.iload 6, 2) := by decide +kernel
theorem dX7_spread_88 : decode cX7_spread 88 = .ok (.invokestatic 70, 3) := by decide +kernel
theorem dX7_spread_91 : decode cX7_spread 91 = .ok (.iadd, 1) := by decide +kernel
theorem dX7_spread_92 : decode cX7_spread 92 = .ok (.istore_n 3, 1) := by decide +kernel
theorem dX7_spread_93 : decode cX7_spread 93 = .ok (.iinc 4 1, 3) := by decide +kernel
theorem dX7_spread_96 : decode cX7_spread 96 = .ok (.goto (-91), 3) := by decide +kernel
theorem dX7_spread_99 : decode cX7_spread 99 = .ok (.iload_n 3, 1) := by decide +kernel
theorem dX7_spread_100 : decode cX7_spread 100 = .ok (.ireturn, 1) := by decide +kernel
theorem dX7_unread_0 : decode cX7_unread 0 = .ok (.iconst 0, 1) := by decide +kernel
theorem dX7_unread_1 : decode cX7_unread 1 = .ok (.istore_n 2, 1) := by decide +kernel
theorem dX7_unread_2 : decode cX7_unread 2 = .ok (.iconst 0, 1) := by decide +kernel
theorem dX7_unread_3 : decode cX7_unread 3 = .ok (.istore_n 3, 1) := by decide +kernel
theorem dX7_unread_4 : decode cX7_unread 4 = .ok (.iload_n 3, 1) := by decide +kernel
theorem dX7_unread_5 : decode cX7_unread 5 = .ok (.aload_n 0, 1) := by decide +kernel
theorem dX7_unread_6 : decode cX7_unread 6 = .ok (.getfield 12, 3) := by decide +kernel
theorem dX7_unread_9 : decode cX7_unread 9 = .ok (.invokevirtual 22, 3) := by decide +kernel
theorem dX7_unread_12 : decode cX7_unread 12 = .ok (.if_icmp .ge 30, 3) := by decide +kernel
theorem dX7_unread_15 : decode cX7_unread 15 = .ok (.aload_n 0, 1) := by decide +kernel
theorem dX7_unread_16 : decode cX7_unread 16 = .ok (.getfield 12, 3) := by decide +kernel
theorem dX7_unread_19 : decode cX7_unread 19 = .ok (.iload_n 3, 1) := by decide +kernel
theorem dX7_unread_20 : decode cX7_unread 20 = .ok (.invokevirtual 26, 3) := by decide +kernel
theorem dX7_unread_23 : decode cX7_unread 23 = .ok (.checkcast 30, 3) := by decide +kernel
theorem dX7_unread_26 : decode cX7_unread 26 = .ok (.iload_n 1, 1) := by decide +kernel
theorem dX7_unread_27 : decode cX7_unread 27 = .ok (.invokevirtual 75, 3) := by decide +kernel
theorem dX7_unread_30 : decode cX7_unread 30 = .ok (.ifCond .eq 6, 3) := by decide +kernel
theorem dX7_unread_33 : decode cX7_unread 33 = .ok (.iinc 2 1, 3) := by decide +kernel
theorem dX7_unread_36 : decode cX7_unread 36 = .ok (.iinc 3 1, 3) := by decide +kernel
theorem dX7_unread_39 : decode cX7_unread 39 = .ok (.goto (-35), 3) := by decide +kernel
theorem dX7_unread_42 : decode cX7_unread 42 = .ok (.iload_n 2, 1) := by decide +kernel
theorem dX7_unread_43 : decode cX7_unread 43 = .ok (.ireturn, 1) := by decide +kernel
theorem dX7_readMail_0 : decode cX7_readMail 0 = .ok (.aload_n 0, 1) := by decide +kernel
theorem dX7_readMail_1 : decode cX7_readMail 1 = .ok (.iload_n 1, 1) := by decide +kernel
theorem dX7_readMail_2 : decode cX7_readMail 2 = .ok (.invokevirtual 79, 3) := by decide +kernel
theorem dX7_readMail_5 : decode cX7_readMail 5 = .ok (.istore_n 2, 1) := by decide +kernel
theorem dX7_readMail_6 : decode cX7_readMail 6 = .ok (.iconst 0, 1) := by decide +kernel
theorem dX7_readMail_7 : decode cX7_readMail 7 = .ok (.istore_n 3, 1) := by decide +kernel
theorem dX7_readMail_8 : decode cX7_readMail 8 = .ok (.iload_n 3, 1) := by decide +kernel
theorem dX7_readMail_9 : decode cX7_readMail 9 = .ok (.aload_n 0, 1) := by decide +kernel
theorem dX7_readMail_10 : decode cX7_readMail 10 = .ok (.getfield 12, 3) := by decide +kernel
theorem dX7_readMail_13 : decode cX7_readMail 13 = .ok (.invokevirtual 22, 3) := by decide +kernel
theorem dX7_readMail_16 : decode cX7_readMail 16 = .ok (.if_icmp .ge 45, 3) := by decide +kernel
theorem dX7_readMail_19 : decode cX7_readMail 19 = .ok (.aload_n 0, 1) := by decide +kernel
theorem dX7_readMail_20 : decode cX7_readMail 20 = .ok (.getfield 12, 3) := by decide +kernel
theorem dX7_readMail_23 : decode cX7_readMail 23 = .ok (.iload_n 3, 1) := by decide +kernel
theorem dX7_readMail_24 : decode cX7_readMail 24 = .ok (.invokevirtual 26, 3) := by decide +kernel
theorem dX7_readMail_27 : decode cX7_readMail 27 = .ok (.checkcast 30, 3) := by decide +kernel
theorem dX7_readMail_30 : decode cX7_readMail 30 = .ok (.astore 4, 2) := by decide +kernel
theorem dX7_readMail_32 : decode cX7_readMail 32 = .ok (.aload 4, 2) := by decide +kernel
theorem dX7_readMail_34 : decode cX7_readMail 34 = .ok (.iload_n 1, 1) := by decide +kernel
theorem dX7_readMail_35 : decode cX7_readMail 35 = .ok (.invokevirtual 75, 3) := by decide +kernel
theorem dX7_readMail_38 : decode cX7_readMail 38 = .ok (.ifCond .eq 17, 3) := by decide +kernel
theorem dX7_readMail_41 : decode cX7_readMail 41 = .ok (.aload 4, 2) := by decide +kernel
theorem dX7_readMail_43 : decode cX7_readMail 43 = .ok (.dup, 1) := by decide +kernel
theorem dX7_readMail_44 : decode cX7_readMail 44 = .ok (.getfield 50, 3) := by decide +kernel
theorem dX7_readMail_47 : decode cX7_readMail 47 = .ok (.iload_n 1, 1) := by decide +kernel
theorem dX7_readMail_48 : decode cX7_readMail 48 = .ok (.invokestatic 46, 3) := by decide +kernel
theorem dX7_readMail_51 : decode cX7_readMail 51 = .ok (.ior, 1) := by decide +kernel
theorem dX7_readMail_52 : decode cX7_readMail 52 = .ok (.putfield 50, 3) := by decide +kernel
theorem dX7_readMail_55 : decode cX7_readMail 55 = .ok (.iinc 3 1, 3) := by decide +kernel
theorem dX7_readMail_58 : decode cX7_readMail 58 = .ok (.goto (-50), 3) := by decide +kernel
theorem dX7_readMail_61 : decode cX7_readMail 61 = .ok (.iload_n 2, 1) := by decide +kernel
theorem dX7_readMail_62 : decode cX7_readMail 62 = .ok (.ireturn, 1) := by decide +kernel
theorem dX7_lookAtRead_0 : decode cX7_lookAtRead 0 = .ok (.iconst 0, 1) := by decide +kernel
theorem dX7_lookAtRead_1 : decode cX7_lookAtRead 1 = .ok (.istore_n 2, 1) := by decide +kernel
theorem dX7_lookAtRead_2 : decode cX7_lookAtRead 2 = .ok (.iload_n 2, 1) := by decide +kernel
theorem dX7_lookAtRead_3 : decode cX7_lookAtRead 3 = .ok (.aload_n 0, 1) := by decide +kernel
theorem dX7_lookAtRead_4 : decode cX7_lookAtRead 4 = .ok (.getfield 12, 3) := by decide +kernel
theorem dX7_lookAtRead_7 : decode cX7_lookAtRead 7 = .ok (.invokevirtual 22, 3) := by decide +kernel
theorem dX7_lookAtRead_10 : decode cX7_lookAtRead 10 = .ok (.if_icmp .ge 42, 3) := by decide +kernel
theorem dX7_lookAtRead_13 : decode cX7_lookAtRead 13 = .ok (.iload_n 2, 1) := by decide +kernel
theorem dX7_lookAtRead_14 : decode cX7_lookAtRead 14 = .ok (.aload_n 0, 1) := by decide +kernel
theorem dX7_lookAtRead_15 : decode cX7_lookAtRead 15 = .ok (.getfield 18, 3) := by decide +kernel
theorem dX7_lookAtRead_18 : decode cX7_lookAtRead 18 = .ok (.arraylength, 1) := by decide +kernel
theorem dX7_lookAtRead_19 : decode cX7_lookAtRead 19 = .ok (.if_icmp .ge 33, 3) := by decide +kernel
theorem dX7_lookAtRead_22 : decode cX7_lookAtRead 22 = .ok (.aload_n 0, 1) := by decide +kernel
theorem dX7_lookAtRead_23 : decode cX7_lookAtRead 23 = .ok (.getfield 18, 3) := by decide +kernel
theorem dX7_lookAtRead_26 : decode cX7_lookAtRead 26 = .ok (.iload_n 2, 1) := by decide +kernel
theorem dX7_lookAtRead_27 : decode cX7_lookAtRead 27 = .ok (.aload_n 0, 1) := by decide +kernel
theorem dX7_lookAtRead_28 : decode cX7_lookAtRead 28 = .ok (.getfield 12, 3) := by decide +kernel
theorem dX7_lookAtRead_31 : decode cX7_lookAtRead 31 = .ok (.iload_n 2, 1) := by decide +kernel
theorem dX7_lookAtRead_32 : decode cX7_lookAtRead 32 = .ok (.invokevirtual 26, 3) := by decide +kernel
theorem dX7_lookAtRead_35 : decode cX7_lookAtRead 35 = .ok (.checkcast 30, 3) := by decide +kernel
theorem dX7_lookAtRead_38 : decode cX7_lookAtRead 38 = .ok (.getfield 50, 3) := by decide +kernel
theorem dX7_lookAtRead_41 : decode cX7_lookAtRead 41 = .ok (.iload_n 1, 1) := by decide +kernel
theorem dX7_lookAtRead_42 : decode cX7_lookAtRead 42 = .ok (.invokestatic 66, 3) := by decide +kernel
theorem dX7_lookAtRead_45 : decode cX7_lookAtRead 45 = .ok (.bastore, 1) := by decide +kernel
theorem dX7_lookAtRead_46 : decode cX7_lookAtRead 46 = .ok (.iinc 2 1, 3) := by decide +kernel
theorem dX7_lookAtRead_49 : decode cX7_lookAtRead 49 = .ok (.goto (-47), 3) := by decide +kernel
theorem dX7_lookAtRead_52 : decode cX7_lookAtRead 52 = .ok (.return_, 1) := by decide +kernel
theorem dX7_lookAtReadable_0 : decode cX7_lookAtReadable 0 = .ok (.iconst 0, 1) := by decide +kernel
theorem dX7_lookAtReadable_1 : decode cX7_lookAtReadable 1 = .ok (.istore_n 2, 1) := by decide +kernel
theorem dX7_lookAtReadable_2 : decode cX7_lookAtReadable 2 = .ok (.iload_n 2, 1) := by decide +kernel
theorem dX7_lookAtReadable_3 : decode cX7_lookAtReadable 3 = .ok (.aload_n 0, 1) := by decide +kernel
theorem dX7_lookAtReadable_4 : decode cX7_lookAtReadable 4 = .ok (.getfield 12, 3) := by decide +kernel
theorem dX7_lookAtReadable_7 : decode cX7_lookAtReadable 7 = .ok (.invokevirtual 22, 3) := by decide +kernel
theorem dX7_lookAtReadable_10 : decode cX7_lookAtReadable 10 = .ok (.if_icmp .ge 39, 3) := by decide +kernel
theorem dX7_lookAtReadable_13 : decode cX7_lookAtReadable 13 = .ok (.iload_n 2, 1) := by decide +kernel
theorem dX7_lookAtReadable_14 : decode cX7_lookAtReadable 14 = .ok (.aload_n 0, 1) := by decide +kernel
theorem dX7_lookAtReadable_15 : decode cX7_lookAtReadable 15 = .ok (.getfield 18, 3) := by decide +kernel
theorem dX7_lookAtReadable_18 : decode cX7_lookAtReadable 18 = .ok (.arraylength, 1) := by decide +kernel
theorem dX7_lookAtReadable_19 : decode cX7_lookAtReadable 19 = .ok (.if_icmp .ge 30, 3) := by decide +kernel
theorem dX7_lookAtReadable_22 : decode cX7_lookAtReadable 22 = .ok (.aload_n 0, 1) := by decide +kernel
theorem dX7_lookAtReadable_23 : decode cX7_lookAtReadable 23 = .ok (.getfield 18, 3) := by decide +kernel
theorem dX7_lookAtReadable_26 : decode cX7_lookAtReadable 26 = .ok (.iload_n 2, 1) := by decide +kernel
theorem dX7_lookAtReadable_27 : decode cX7_lookAtReadable 27 = .ok (.aload_n 0, 1) := by decide +kernel
theorem dX7_lookAtReadable_28 : decode cX7_lookAtReadable 28 = .ok (.getfield 12, 3) := by decide +kernel
theorem dX7_lookAtReadable_31 : decode cX7_lookAtReadable 31 = .ok (.iload_n 2, 1) := by decide +kernel
theorem dX7_lookAtReadable_32 : decode cX7_lookAtReadable 32 = .ok (.invokevirtual 26, 3) := by decide +kernel
theorem dX7_lookAtReadable_35 : decode cX7_lookAtReadable 35 = .ok (.checkcast 30, 3) := by decide +kernel
theorem dX7_lookAtReadable_38 : decode cX7_lookAtReadable 38 = .ok (.aload_n 1, 1) := by decide +kernel
theorem dX7_lookAtReadable_39 : decode cX7_lookAtReadable 39 = .ok (.invokevirtual 82, 3) := by decide +kernel
theorem dX7_lookAtReadable_42 : decode cX7_lookAtReadable 42 = .ok (.bastore, 1) := by decide +kernel
theorem dX7_lookAtReadable_43 : decode cX7_lookAtReadable 43 = .ok (.iinc 2 1, 3) := by decide +kernel
theorem dX7_lookAtReadable_46 : decode cX7_lookAtReadable 46 = .ok (.goto (-44), 3) := by decide +kernel
theorem dX7_lookAtReadable_49 : decode cX7_lookAtReadable 49 = .ok (.return_, 1) := by decide +kernel
theorem dX7_lookAtAll_0 : decode cX7_lookAtAll 0 = .ok (.iconst 0, 1) := by decide +kernel
theorem dX7_lookAtAll_1 : decode cX7_lookAtAll 1 = .ok (.istore_n 1, 1) := by decide +kernel
theorem dX7_lookAtAll_2 : decode cX7_lookAtAll 2 = .ok (.iload_n 1, 1) := by decide +kernel
theorem dX7_lookAtAll_3 : decode cX7_lookAtAll 3 = .ok (.aload_n 0, 1) := by decide +kernel
theorem dX7_lookAtAll_4 : decode cX7_lookAtAll 4 = .ok (.getfield 12, 3) := by decide +kernel
theorem dX7_lookAtAll_7 : decode cX7_lookAtAll 7 = .ok (.invokevirtual 22, 3) := by decide +kernel
theorem dX7_lookAtAll_10 : decode cX7_lookAtAll 10 = .ok (.if_icmp .ge 25, 3) := by decide +kernel
theorem dX7_lookAtAll_13 : decode cX7_lookAtAll 13 = .ok (.iload_n 1, 1) := by decide +kernel
theorem dX7_lookAtAll_14 : decode cX7_lookAtAll 14 = .ok (.aload_n 0, 1) := by decide +kernel
theorem dX7_lookAtAll_15 : decode cX7_lookAtAll 15 = .ok (.getfield 18, 3) := by decide +kernel
theorem dX7_lookAtAll_18 : decode cX7_lookAtAll 18 = .ok (.arraylength, 1) := by decide +kernel
theorem dX7_lookAtAll_19 : decode cX7_lookAtAll 19 = .ok (.if_icmp .ge 16, 3) := by decide +kernel
theorem dX7_lookAtAll_22 : decode cX7_lookAtAll 22 = .ok (.aload_n 0, 1) := by decide +kernel
theorem dX7_lookAtAll_23 : decode cX7_lookAtAll 23 = .ok (.getfield 18, 3) := by decide +kernel
theorem dX7_lookAtAll_26 : decode cX7_lookAtAll 26 = .ok (.iload_n 1, 1) := by decide +kernel
theorem dX7_lookAtAll_27 : decode cX7_lookAtAll 27 = .ok (.iconst 1, 1) := by decide +kernel
theorem dX7_lookAtAll_28 : decode cX7_lookAtAll 28 = .ok (.bastore, 1) := by decide +kernel
theorem dX7_lookAtAll_29 : decode cX7_lookAtAll 29 = .ok (.iinc 1 1, 3) := by decide +kernel
theorem dX7_lookAtAll_32 : decode cX7_lookAtAll 32 = .ok (.goto (-30), 3) := by decide +kernel
theorem dX7_lookAtAll_35 : decode cX7_lookAtAll 35 = .ok (.return_, 1) := by decide +kernel
theorem dX7_sees_0 : decode cX7_sees 0 = .ok (.iload_n 1, 1) := by decide +kernel
theorem dX7_sees_1 : decode cX7_sees 1 = .ok (.ifCond .lt 25, 3) := by decide +kernel
theorem dX7_sees_4 : decode cX7_sees 4 = .ok (.iload_n 1, 1) := by decide +kernel
theorem dX7_sees_5 : decode cX7_sees 5 = .ok (.aload_n 0, 1) := by decide +kernel
theorem dX7_sees_6 : decode cX7_sees 6 = .ok (.getfield 18, 3) := by decide +kernel
theorem dX7_sees_9 : decode cX7_sees 9 = .ok (.arraylength, 1) := by decide +kernel
theorem dX7_sees_10 : decode cX7_sees 10 = .ok (.if_icmp .ge 16, 3) := by decide +kernel
theorem dX7_sees_13 : decode cX7_sees 13 = .ok (.aload_n 0, 1) := by decide +kernel
theorem dX7_sees_14 : decode cX7_sees 14 = .ok (.getfield 18, 3) := by decide +kernel
theorem dX7_sees_17 : decode cX7_sees 17 = .ok (.iload_n 1, 1) := by decide +kernel
theorem dX7_sees_18 : decode cX7_sees 18 = .ok (.baload, 1) := by decide +kernel
theorem dX7_sees_19 : decode cX7_sees 19 = .ok (.ifCond .eq 7, 3) := by decide +kernel
theorem dX7_sees_22 : decode cX7_sees 22 = .ok (.iconst 1, 1) := by decide +kernel
theorem dX7_sees_23 : decode cX7_sees 23 = .ok (.goto 4, 3) := by decide +kernel
theorem dX7_sees_26 : decode cX7_sees 26 = .ok (.iconst 0, 1) := by decide +kernel
theorem dX7_sees_27 : decode cX7_sees 27 = .ok (.ireturn, 1) := by decide +kernel
theorem dX7_knows_0 : decode cX7_knows 0 = .ok (.aload_n 1, 1) := by decide +kernel
theorem dX7_knows_1 : decode cX7_knows 1 = .ok (.astore_n 2, 1) := by decide +kernel
theorem dX7_knows_2 : decode cX7_knows 2 = .ok (.aload_n 2, 1) := by decide +kernel
theorem dX7_knows_3 : decode cX7_knows 3 = .ok (.ifnull 24, 3) := by decide +kernel
theorem dX7_knows_6 : decode cX7_knows 6 = .ok (.aload_n 0, 1) := by decide +kernel
theorem dX7_knows_7 : decode cX7_knows 7 = .ok (.aload_n 2, 1) := by decide +kernel
theorem dX7_knows_8 : decode cX7_knows 8 = .ok (.getfield 86, 3) := by decide +kernel
theorem dX7_knows_11 : decode cX7_knows 11 = .ok (.invokevirtual 89, 3) := by decide +kernel
theorem dX7_knows_14 : decode cX7_knows 14 = .ok (.ifCond .ne 5, 3) := by decide +kernel
theorem dX7_knows_17 : decode cX7_knows 17 = .ok (.iconst 0, 1) := by decide +kernel
theorem dX7_knows_18 : decode cX7_knows 18 = .ok (.ireturn, 1) := by decide +kernel
theorem dX7_knows_19 : decode cX7_knows 19 = .ok (.aload_n 2, 1) := by decide +kernel
theorem dX7_knows_20 : decode cX7_knows 20 = .ok (.getfield 92, 3) := by decide +kernel
theorem dX7_knows_23 : decode cX7_knows 23 = .ok (.astore_n 2, 1) := by decide +kernel
theorem dX7_knows_24 : decode cX7_knows 24 = .ok (.goto (-22), 3) := by decide +kernel
theorem dX7_knows_27 : decode cX7_knows 27 = .ok (.iconst 1, 1) := by decide +kernel
theorem dX7_knows_28 : decode cX7_knows 28 = .ok (.ireturn, 1) := by decide +kernel
theorem dX7_revokes_0 : decode cX7_revokes 0 = .ok (.aload_n 1, 1) := by decide +kernel
theorem dX7_revokes_1 : decode cX7_revokes 1 = .ok (.astore_n 2, 1) := by decide +kernel
theorem dX7_revokes_2 : decode cX7_revokes 2 = .ok (.aload_n 2, 1) := by decide +kernel
theorem dX7_revokes_3 : decode cX7_revokes 3 = .ok (.ifnull 21, 3) := by decide +kernel
theorem dX7_revokes_6 : decode cX7_revokes 6 = .ok (.aload_n 0, 1) := by decide +kernel
theorem dX7_revokes_7 : decode cX7_revokes 7 = .ok (.aload_n 2, 1) := by decide +kernel
theorem dX7_revokes_8 : decode cX7_revokes 8 = .ok (.invokevirtual 96, 3) := by decide +kernel
theorem dX7_revokes_11 : decode cX7_revokes 11 = .ok (.ifCond .eq 5, 3) := by decide +kernel
theorem dX7_revokes_14 : decode cX7_revokes 14 = .ok (.iconst 1, 1) := by decide +kernel
theorem dX7_revokes_15 : decode cX7_revokes 15 = .ok (.ireturn, 1) := by decide +kernel
theorem dX7_revokes_16 : decode cX7_revokes 16 = .ok (.aload_n 2, 1) := by decide +kernel
theorem dX7_revokes_17 : decode cX7_revokes 17 = .ok (.getfield 92, 3) := by decide +kernel
theorem dX7_revokes_20 : decode cX7_revokes 20 = .ok (.astore_n 2, 1) := by decide +kernel
theorem dX7_revokes_21 : decode cX7_revokes 21 = .ok (.goto (-19), 3) := by decide +kernel
theorem dX7_revokes_24 : decode cX7_revokes 24 = .ok (.iconst 0, 1) := by decide +kernel
theorem dX7_revokes_25 : decode cX7_revokes 25 = .ok (.ireturn, 1) := by decide +kernel
theorem dX7_revokesAlone_0 : decode cX7_revokesAlone 0 = .ok (.iconst 0, 1) := by decide +kernel
theorem dX7_revokesAlone_1 : decode cX7_revokesAlone 1 = .ok (.istore_n 2, 1) := by decide +kernel
theorem dX7_revokesAlone_2 : decode cX7_revokesAlone 2 = .ok (.iload_n 2, 1) := by decide +kernel
theorem dX7_revokesAlone_3 : decode cX7_revokesAlone 3 = .ok (.aload_n 0, 1) := by decide +kernel
theorem dX7_revokesAlone_4 : decode cX7_revokesAlone 4 = .ok (.getfield 12, 3) := by decide +kernel
theorem dX7_revokesAlone_7 : decode cX7_revokesAlone 7 = .ok (.invokevirtual 22, 3) := by decide +kernel
theorem dX7_revokesAlone_10 : decode cX7_revokesAlone 10 = .ok (.if_icmp .ge 37, 3) := by decide +kernel
theorem dX7_revokesAlone_13 : decode cX7_revokesAlone 13 = .ok (.aload_n 0, 1) := by decide +kernel
theorem dX7_revokesAlone_14 : decode cX7_revokesAlone 14 = .ok (.iload_n 2, 1) := by decide +kernel
theorem dX7_revokesAlone_15 : decode cX7_revokesAlone 15 = .ok (.invokevirtual 89, 3) := by decide +kernel
theorem dX7_revokesAlone_18 : decode cX7_revokesAlone 18 = .ok (.ifCond .eq 23, 3) := by decide +kernel
theorem dX7_revokesAlone_21 : decode cX7_revokesAlone 21 = .ok (.aload_n 0, 1) := by decide +kernel
theorem dX7_revokesAlone_22 : decode cX7_revokesAlone 22 = .ok (.getfield 12, 3) := by decide +kernel
theorem dX7_revokesAlone_25 : decode cX7_revokesAlone 25 = .ok (.iload_n 2, 1) := by decide +kernel
theorem dX7_revokesAlone_26 : decode cX7_revokesAlone 26 = .ok (.invokevirtual 26, 3) := by decide +kernel
theorem dX7_revokesAlone_29 : decode cX7_revokesAlone 29 = .ok (.checkcast 30, 3) := by decide +kernel
theorem dX7_revokesAlone_32 : decode cX7_revokesAlone 32 = .ok (.aload_n 1, 1) := by decide +kernel
theorem dX7_revokesAlone_33 : decode cX7_revokesAlone 33 = .ok (.invokevirtual 100, 3) := by decide +kernel
theorem dX7_revokesAlone_36 : decode cX7_revokesAlone 36 = .ok (.ifCond .eq 5, 3) := by decide +kernel
theorem dX7_revokesAlone_39 : decode cX7_revokesAlone 39 = .ok (.iconst 1, 1) := by decide +kernel
theorem dX7_revokesAlone_40 : decode cX7_revokesAlone 40 = .ok (.ireturn, 1) := by decide +kernel
theorem dX7_revokesAlone_41 : decode cX7_revokesAlone 41 = .ok (.iinc 2 1, 3) := by decide +kernel
theorem dX7_revokesAlone_44 : decode cX7_revokesAlone 44 = .ok (.goto (-42), 3) := by decide +kernel
theorem dX7_revokesAlone_47 : decode cX7_revokesAlone 47 = .ok (.iconst 0, 1) := by decide +kernel
theorem dX7_revokesAlone_48 : decode cX7_revokesAlone 48 = .ok (.ireturn, 1) := by decide +kernel
theorem dX7_doneWith_0 : decode cX7_doneWith 0 = .ok (.iconst 0, 1) := by decide +kernel
theorem dX7_doneWith_1 : decode cX7_doneWith 1 = .ok (.istore_n 2, 1) := by decide +kernel
theorem dX7_doneWith_2 : decode cX7_doneWith 2 = .ok (.iconst 0, 1) := by decide +kernel
theorem dX7_doneWith_3 : decode cX7_doneWith 3 = .ok (.istore_n 3, 1) := by decide +kernel
theorem dX7_doneWith_4 : decode cX7_doneWith 4 = .ok (.iload_n 3, 1) := by decide +kernel
theorem dX7_doneWith_5 : decode cX7_doneWith 5 = .ok (.aload_n 0, 1) := by decide +kernel
theorem dX7_doneWith_6 : decode cX7_doneWith 6 = .ok (.getfield 12, 3) := by decide +kernel
theorem dX7_doneWith_9 : decode cX7_doneWith 9 = .ok (.invokevirtual 22, 3) := by decide +kernel
theorem dX7_doneWith_12 : decode cX7_doneWith 12 = .ok (.if_icmp .ge 35, 3) := by decide +kernel
theorem dX7_doneWith_15 : decode cX7_doneWith 15 = .ok (.aload_n 0, 1) := by decide +kernel
theorem dX7_doneWith_16 : decode cX7_doneWith 16 = .ok (.iload_n 3, 1) := by decide +kernel
theorem dX7_doneWith_17 : decode cX7_doneWith 17 = .ok (.invokevirtual 89, 3) := by decide +kernel
theorem dX7_doneWith_20 : decode cX7_doneWith 20 = .ok (.ifCond .eq 21, 3) := by decide +kernel
theorem dX7_doneWith_23 : decode cX7_doneWith 23 = .ok (.iload_n 2, 1) := by decide +kernel
theorem dX7_doneWith_24 : decode cX7_doneWith 24 = .ok (.aload_n 0, 1) := by decide +kernel
theorem dX7_doneWith_25 : decode cX7_doneWith 25 = .ok (.getfield 12, 3) := by decide +kernel
theorem dX7_doneWith_28 : decode cX7_doneWith 28 = .ok (.iload_n 3, 1) := by decide +kernel
theorem dX7_doneWith_29 : decode cX7_doneWith 29 = .ok (.invokevirtual 26, 3) := by decide +kernel
theorem dX7_doneWith_32 : decode cX7_doneWith 32 = .ok (.checkcast 30, 3) := by decide +kernel
theorem dX7_doneWith_35 : decode cX7_doneWith 35 = .ok (.aload_n 1, 1) := by decide +kernel
theorem dX7_doneWith_36 : decode cX7_doneWith 36 = .ok (.invokevirtual 103, 3) := by decide +kernel
theorem dX7_doneWith_39 : decode cX7_doneWith 39 = .ok (.iadd, 1) := by decide +kernel
theorem dX7_doneWith_40 : decode cX7_doneWith 40 = .ok (.istore_n 2, 1) := by decide +kernel
theorem dX7_doneWith_41 : decode cX7_doneWith 41 = .ok (.iinc 3 1, 3) := by decide +kernel
theorem dX7_doneWith_44 : decode cX7_doneWith 44 = .ok (.goto (-40), 3) := by decide +kernel
theorem dX7_doneWith_47 : decode cX7_doneWith 47 = .ok (.iload_n 2, 1) := by decide +kernel
theorem dX7_doneWith_48 : decode cX7_doneWith 48 = .ok (.ireturn, 1) := by decide +kernel
theorem dX7_wouldPassTotal_0 : decode cX7_wouldPassTotal 0 = .ok (.aload_n 1, 1) := by decide +kernel
theorem dX7_wouldPassTotal_1 : decode cX7_wouldPassTotal 1 = .ok (.astore_n 3, 1) := by decide +kernel
theorem dX7_wouldPassTotal_2 : decode cX7_wouldPassTotal 2 = .ok (.aload_n 3, 1) := by decide +kernel
theorem dX7_wouldPassTotal_3 : decode cX7_wouldPassTotal 3 = .ok (.ifnull 27, 3) := by decide +kernel
theorem dX7_wouldPassTotal_6 : decode cX7_wouldPassTotal 6 = .ok (.aload_n 0, 1) := by decide +kernel
theorem dX7_wouldPassTotal_7 : decode cX7_wouldPassTotal 7 = .ok (.aload_n 3, 1) := by decide +kernel
theorem dX7_wouldPassTotal_8 : decode cX7_wouldPassTotal 8 = .ok (.invokevirtual 107, 3) := by decide +kernel
theorem dX7_wouldPassTotal_11 : decode cX7_wouldPassTotal 11 = .ok (.iload_n 2, 1) := by decide +kernel
theorem dX7_wouldPassTotal_12 : decode cX7_wouldPassTotal 12 = .ok (.iadd, 1) := by decide +kernel
theorem dX7_wouldPassTotal_13 : decode cX7_wouldPassTotal 13 = .ok (.aload_n 3, 1) := by decide +kernel
theorem dX7_wouldPassTotal_14 : decode cX7_wouldPassTotal 14 = .ok (.getfield 110, 3) := by decide +kernel
theorem dX7_wouldPassTotal_17 : decode cX7_wouldPassTotal 17 = .ok (.if_icmp .le 5, 3) := by decide +kernel
theorem dX7_wouldPassTotal_20 : decode cX7_wouldPassTotal 20 = .ok (.iconst 1, 1) := by decide +kernel
theorem dX7_wouldPassTotal_21 : decode cX7_wouldPassTotal 21 = .ok (.ireturn, 1) := by decide +kernel
theorem dX7_wouldPassTotal_22 : decode cX7_wouldPassTotal 22 = .ok (.aload_n 3, 1) := by decide +kernel
theorem dX7_wouldPassTotal_23 : decode cX7_wouldPassTotal 23 = .ok (.getfield 92, 3) := by decide +kernel
theorem dX7_wouldPassTotal_26 : decode cX7_wouldPassTotal 26 = .ok (.astore_n 3, 1) := by decide +kernel
theorem dX7_wouldPassTotal_27 : decode cX7_wouldPassTotal 27 = .ok (.goto (-25), 3) := by decide +kernel
theorem dX7_wouldPassTotal_30 : decode cX7_wouldPassTotal 30 = .ok (.iconst 0, 1) := by decide +kernel
theorem dX7_wouldPassTotal_31 : decode cX7_wouldPassTotal 31 = .ok (.ireturn, 1) := by decide +kernel
theorem dX7_deputes_0 : decode cX7_deputes 0 = .ok (.iconst 0, 1) := by decide +kernel
theorem dX7_deputes_1 : decode cX7_deputes 1 = .ok (.istore 4, 2) := by decide +kernel
theorem dX7_deputes_3 : decode cX7_deputes 3 = .ok (.iload 4, 2) := by decide +kernel
theorem dX7_deputes_5 : decode cX7_deputes 5 = .ok (.aload_n 0, 1) := by decide +kernel
theorem dX7_deputes_6 : decode cX7_deputes 6 = .ok (.getfield 12, 3) := by decide +kernel
theorem dX7_deputes_9 : decode cX7_deputes 9 = .ok (.invokevirtual 22, 3) := by decide +kernel
theorem dX7_deputes_12 : decode cX7_deputes 12 = .ok (.if_icmp .ge 41, 3) := by decide +kernel
theorem dX7_deputes_15 : decode cX7_deputes 15 = .ok (.aload_n 0, 1) := by decide +kernel
theorem dX7_deputes_16 : decode cX7_deputes 16 = .ok (.iload 4, 2) := by decide +kernel
theorem dX7_deputes_18 : decode cX7_deputes 18 = .ok (.invokevirtual 89, 3) := by decide +kernel
theorem dX7_deputes_21 : decode cX7_deputes 21 = .ok (.ifCond .eq 26, 3) := by decide +kernel
theorem dX7_deputes_24 : decode cX7_deputes 24 = .ok (.aload_n 0, 1) := by decide +kernel
theorem dX7_deputes_25 : decode cX7_deputes 25 = .ok (.getfield 12, 3) := by decide +kernel
theorem dX7_deputes_28 : decode cX7_deputes 28 = .ok (.iload 4, 2) := by decide +kernel
theorem dX7_deputes_30 : decode cX7_deputes 30 = .ok (.invokevirtual 26, 3) := by decide +kernel
theorem dX7_deputes_33 : decode cX7_deputes 33 = .ok (.checkcast 30, 3) := by decide +kernel
theorem dX7_deputes_36 : decode cX7_deputes 36 = .ok (.iload_n 1, 1) := by decide +kernel
theorem dX7_deputes_37 : decode cX7_deputes 37 = .ok (.iload_n 2, 1) := by decide +kernel
theorem dX7_deputes_38 : decode cX7_deputes 38 = .ok (.iload_n 3, 1) := by decide +kernel
theorem dX7_deputes_39 : decode cX7_deputes 39 = .ok (.invokevirtual 113, 3) := by decide +kernel
theorem dX7_deputes_42 : decode cX7_deputes 42 = .ok (.ifCond .eq 5, 3) := by decide +kernel
theorem dX7_deputes_45 : decode cX7_deputes 45 = .ok (.iconst 1, 1) := by decide +kernel
theorem dX7_deputes_46 : decode cX7_deputes 46 = .ok (.ireturn, 1) := by decide +kernel
theorem dX7_deputes_47 : decode cX7_deputes 47 = .ok (.iinc 4 1, 3) := by decide +kernel
theorem dX7_deputes_50 : decode cX7_deputes 50 = .ok (.goto (-47), 3) := by decide +kernel
theorem dX7_deputes_53 : decode cX7_deputes 53 = .ok (.iconst 0, 1) := by decide +kernel
theorem dX7_deputes_54 : decode cX7_deputes 54 = .ok (.ireturn, 1) := by decide +kernel
theorem dX7_officerAt_0 : decode cX7_officerAt 0 = .ok (.aload_n 0, 1) := by decide +kernel
theorem dX7_officerAt_1 : decode cX7_officerAt 1 = .ok (.iload_n 1, 1) := by decide +kernel
theorem dX7_officerAt_2 : decode cX7_officerAt 2 = .ok (.iload_n 2, 1) := by decide +kernel
theorem dX7_officerAt_3 : decode cX7_officerAt 3 = .ok (.iload_n 2, 1) := by decide +kernel
theorem dX7_officerAt_4 : decode cX7_officerAt 4 = .ok (.invokevirtual 117, 3) := by decide +kernel
theorem dX7_officerAt_7 : decode cX7_officerAt 7 = .ok (.ifCond .eq 7, 3) := by decide +kernel
theorem dX7_officerAt_10 : decode cX7_officerAt 10 = .ok (.iconst 1, 1) := by decide +kernel
theorem dX7_officerAt_11 : decode cX7_officerAt 11 = .ok (.goto 4, 3) := by decide +kernel
theorem dX7_officerAt_14 : decode cX7_officerAt 14 = .ok (.iconst 0, 1) := by decide +kernel
theorem dX7_officerAt_15 : decode cX7_officerAt 15 = .ok (.ireturn, 1) := by decide +kernel
theorem dX7_reasonAgainst_0 : decode cX7_reasonAgainst 0 = .ok (.aload_n 0, 1) := by decide +kernel
theorem dX7_reasonAgainst_1 : decode cX7_reasonAgainst 1 = .ok (.aload_n 1, 1) := by decide +kernel
theorem dX7_reasonAgainst_2 : decode cX7_reasonAgainst 2 = .ok (.invokevirtual 120, 3) := by decide +kernel
theorem dX7_reasonAgainst_5 : decode cX7_reasonAgainst 5 = .ok (.ifCond .ne 5, 3) := by decide +kernel
theorem dX7_reasonAgainst_8 : decode cX7_reasonAgainst 8 = .ok (.iconst 1, 1) := by decide +kernel
theorem dX7_reasonAgainst_9 : decode cX7_reasonAgainst 9 = .ok (.ireturn, 1) := by decide +kernel
theorem dX7_reasonAgainst_10 : decode cX7_reasonAgainst 10 = .ok (.aload_n 2, 1) := by decide +kernel
theorem dX7_reasonAgainst_11 : decode cX7_reasonAgainst 11 = .ok (.getfield 123, 3) := by decide +kernel
theorem dX7_reasonAgainst_14 : decode cX7_reasonAgainst 14 = .ok (.aload_n 1, 1) := by decide +kernel
theorem dX7_reasonAgainst_15 : decode cX7_reasonAgainst 15 = .ok (.getfield 128, 3) := by decide +kernel
theorem dX7_reasonAgainst_18 : decode cX7_reasonAgainst 18 = .ok (.if_icmp .eq 5, 3) := by decide +kernel
theorem dX7_reasonAgainst_21 : decode cX7_reasonAgainst 21 = .ok (.iconst 2, 1) := by decide +kernel
theorem dX7_reasonAgainst_22 : decode cX7_reasonAgainst 22 = .ok (.ireturn, 1) := by decide +kernel
theorem dX7_reasonAgainst_23 : decode cX7_reasonAgainst 23 = .ok (.aload_n 0, 1) := by decide +kernel
theorem dX7_reasonAgainst_24 : decode cX7_reasonAgainst 24 = .ok (.aload_n 1, 1) := by decide +kernel
theorem dX7_reasonAgainst_25 : decode cX7_reasonAgainst 25 = .ok (.invokevirtual 131, 3) := by decide +kernel
theorem dX7_reasonAgainst_28 : decode cX7_reasonAgainst 28 = .ok (.ifCond .eq 5, 3) := by decide +kernel
theorem dX7_reasonAgainst_31 : decode cX7_reasonAgainst 31 = .ok (.iconst 3, 1) := by decide +kernel
theorem dX7_reasonAgainst_32 : decode cX7_reasonAgainst 32 = .ok (.ireturn, 1) := by decide +kernel
theorem dX7_reasonAgainst_33 : decode cX7_reasonAgainst 33 = .ok (.aload_n 1, 1) := by decide +kernel
theorem dX7_reasonAgainst_34 : decode cX7_reasonAgainst 34 = .ok (.aload_n 2, 1) := by decide +kernel
theorem dX7_reasonAgainst_35 : decode cX7_reasonAgainst 35 = .ok (.getfield 134, 3) := by decide +kernel
theorem dX7_reasonAgainst_38 : decode cX7_reasonAgainst 38 = .ok (.invokevirtual 135, 3) := by decide +kernel
theorem dX7_reasonAgainst_41 : decode cX7_reasonAgainst 41 = .ok (.ifCond .eq 5, 3) := by decide +kernel
theorem dX7_reasonAgainst_44 : decode cX7_reasonAgainst 44 = .ok (.iconst 4, 1) := by decide +kernel
theorem dX7_reasonAgainst_45 : decode cX7_reasonAgainst 45 = .ok (.ireturn, 1) := by decide +kernel
theorem dX7_reasonAgainst_46 : decode cX7_reasonAgainst 46 = .ok (.aload_n 1, 1) := by decide +kernel
theorem dX7_reasonAgainst_47 : decode cX7_reasonAgainst 47 = .ok (.getfield 138, 3) := by decide +kernel
theorem dX7_reasonAgainst_50 : decode cX7_reasonAgainst 50 = .ok (.aload_n 2, 1) := by decide +kernel
theorem dX7_reasonAgainst_51 : decode cX7_reasonAgainst 51 = .ok (.getfield 141, 3) := by decide +kernel
theorem dX7_reasonAgainst_54 : decode cX7_reasonAgainst 54 = .ok (.invokestatic 66, 3) := by decide +kernel
theorem dX7_reasonAgainst_57 : decode cX7_reasonAgainst 57 = .ok (.ifCond .ne 5, 3) := by decide +kernel
theorem dX7_reasonAgainst_60 : decode cX7_reasonAgainst 60 = .ok (.iconst 5, 1) := by decide +kernel
theorem dX7_reasonAgainst_61 : decode cX7_reasonAgainst 61 = .ok (.ireturn, 1) := by decide +kernel
theorem dX7_reasonAgainst_62 : decode cX7_reasonAgainst 62 = .ok (.aload_n 1, 1) := by decide +kernel
theorem dX7_reasonAgainst_63 : decode cX7_reasonAgainst 63 = .ok (.aload_n 2, 1) := by decide +kernel
theorem dX7_reasonAgainst_64 : decode cX7_reasonAgainst 64 = .ok (.getfield 144, 3) := by decide +kernel
theorem dX7_reasonAgainst_67 : decode cX7_reasonAgainst 67 = .ok (.invokevirtual 147, 3) := by decide +kernel
theorem dX7_reasonAgainst_70 : decode cX7_reasonAgainst 70 = .ok (.ifCond .eq 6, 3) := by decide +kernel
theorem dX7_reasonAgainst_73 : decode cX7_reasonAgainst 73 = .ok (.bipush 6, 2) := by decide +kernel
theorem dX7_reasonAgainst_75 : decode cX7_reasonAgainst 75 = .ok (.ireturn, 1) := by decide +kernel
theorem dX7_reasonAgainst_76 : decode cX7_reasonAgainst 76 = .ok (.aload_n 0, 1) := by decide +kernel
theorem dX7_reasonAgainst_77 : decode cX7_reasonAgainst 77 = .ok (.aload_n 1, 1) := by decide +kernel
theorem dX7_reasonAgainst_78 : decode cX7_reasonAgainst 78 = .ok (.aload_n 2, 1) := by decide +kernel
theorem dX7_reasonAgainst_79 : decode cX7_reasonAgainst 79 = .ok (.getfield 144, 3) := by decide +kernel
theorem dX7_reasonAgainst_82 : decode cX7_reasonAgainst 82 = .ok (.invokevirtual 150, 3) := by decide +kernel
theorem dX7_reasonAgainst_85 : decode cX7_reasonAgainst 85 = .ok (.ifCond .eq 6, 3) := by decide +kernel
theorem dX7_reasonAgainst_88 : decode cX7_reasonAgainst 88 = .ok (.bipush 7, 2) := by decide +kernel
theorem dX7_reasonAgainst_90 : decode cX7_reasonAgainst 90 = .ok (.ireturn, 1) := by decide +kernel
theorem dX7_reasonAgainst_91 : decode cX7_reasonAgainst 91 = .ok (.aload_n 2, 1) := by decide +kernel
theorem dX7_reasonAgainst_92 : decode cX7_reasonAgainst 92 = .ok (.getfield 154, 3) := by decide +kernel
theorem dX7_reasonAgainst_95 : decode cX7_reasonAgainst 95 = .ok (.aload_n 0, 1) := by decide +kernel
theorem dX7_reasonAgainst_96 : decode cX7_reasonAgainst 96 = .ok (.aload_n 2, 1) := by decide +kernel
theorem dX7_reasonAgainst_97 : decode cX7_reasonAgainst 97 = .ok (.getfield 157, 3) := by decide +kernel
theorem dX7_reasonAgainst_100 : decode cX7_reasonAgainst 100 = .ok (.aload_n 2, 1) := by decide +kernel
theorem dX7_reasonAgainst_101 : decode cX7_reasonAgainst 101 = .ok (.getfield 134, 3) := by decide +kernel
theorem dX7_reasonAgainst_104 : decode cX7_reasonAgainst 104 = .ok (.invokevirtual 158, 3) := by decide +kernel
theorem dX7_reasonAgainst_107 : decode cX7_reasonAgainst 107 = .ok (.if_icmp .ne 7, 3) := by decide +kernel
theorem dX7_reasonAgainst_110 : decode cX7_reasonAgainst 110 = .ok (.iconst 0, 1) := by decide +kernel
theorem dX7_reasonAgainst_111 : decode cX7_reasonAgainst 111 = .ok (.goto 5, 3) := by decide +kernel
theorem dX7_reasonAgainst_114 : decode cX7_reasonAgainst 114 = .ok (.bipush 8, 2) := by decide +kernel
theorem dX7_reasonAgainst_116 : decode cX7_reasonAgainst 116 = .ok (.ireturn, 1) := by decide +kernel
theorem dX8_init_0 : decode cX8_init 0 = .ok (.aload_n 0, 1) := by decide +kernel
theorem dX8_init_1 : decode cX8_init 1 = .ok (.invokespecial 3, 3) := by decide +kernel
theorem dX8_init_4 : decode cX8_init 4 = .ok (.aload_n 0, 1) := by decide +kernel
theorem dX8_init_5 : decode cX8_init 5 = .ok (.bipush 6, 2) := by decide +kernel
theorem dX8_init_7 : decode cX8_init 7 = .ok (.newarray .int, 2) := by decide +kernel
theorem dX8_init_9 : decode cX8_init 9 = .ok (.putfield 9, 3) := by decide +kernel
theorem dX8_init_12 : decode cX8_init 12 = .ok (.aload_n 0, 1) := by decide +kernel
theorem dX8_init_13 : decode cX8_init 13 = .ok (.getfield 9, 3) := by decide +kernel
theorem dX8_init_16 : decode cX8_init 16 = .ok (.iconst (-1), 1) := by decide +kernel
theorem dX8_init_17 : decode cX8_init 17 = .ok (.invokestatic 15, 3) := by decide +kernel
theorem dX8_init_20 : decode cX8_init 20 = .ok (.return_, 1) := by decide +kernel
theorem dX8_comeTo_0 : decode cX8_comeTo 0 = .ok (.aload_n 0, 1) := by decide +kernel
theorem dX8_comeTo_1 : decode cX8_comeTo 1 = .ok (.getfield 9, 3) := by decide +kernel
theorem dX8_comeTo_4 : decode cX8_comeTo 4 = .ok (.iload_n 1, 1) := by decide +kernel
theorem dX8_comeTo_5 : decode cX8_comeTo 5 = .ok (.iload_n 2, 1) := by decide +kernel
theorem dX8_comeTo_6 : decode cX8_comeTo 6 = .ok (.iastore, 1) := by decide +kernel
theorem dX8_comeTo_7 : decode cX8_comeTo 7 = .ok (.aload_n 0, 1) := by decide +kernel
theorem dX8_comeTo_8 : decode cX8_comeTo 8 = .ok (.dup, 1) := by decide +kernel
theorem dX8_comeTo_9 : decode cX8_comeTo 9 = .ok (.getfield 21, 3) := by decide +kernel
theorem dX8_comeTo_12 : decode cX8_comeTo 12 = .ok (.iload_n 1, 1) := by decide +kernel
theorem dX8_comeTo_13 : decode cX8_comeTo 13 = .ok (.invokestatic 25, 3) := by decide +kernel
theorem dX8_comeTo_16 : decode cX8_comeTo 16 = .ok (.ior, 1) := by decide +kernel
theorem dX8_comeTo_17 : decode cX8_comeTo 17 = .ok (.putfield 21, 3) := by decide +kernel
theorem dX8_comeTo_20 : decode cX8_comeTo 20 = .ok (.return_, 1) := by decide +kernel
theorem dX8_isInMail_0 : decode cX8_isInMail 0 = .ok (.aload_n 0, 1) := by decide +kernel
theorem dX8_isInMail_1 : decode cX8_isInMail 1 = .ok (.getfield 21, 3) := by decide +kernel
theorem dX8_isInMail_4 : decode cX8_isInMail 4 = .ok (.aload_n 0, 1) := by decide +kernel
theorem dX8_isInMail_5 : decode cX8_isInMail 5 = .ok (.getfield 29, 3) := by decide +kernel
theorem dX8_isInMail_8 : decode cX8_isInMail 8 = .ok (.iconst (-1), 1) := by decide +kernel
theorem dX8_isInMail_9 : decode cX8_isInMail 9 = .ok (.ixor, 1) := by decide +kernel
theorem dX8_isInMail_10 : decode cX8_isInMail 10 = .ok (.iand, 1) := by decide +kernel
theorem dX8_isInMail_11 : decode cX8_isInMail 11 = .ok (.iload_n 1, 1) := by decide +kernel
theorem dX8_isInMail_12 : decode cX8_isInMail 12 = .ok (.invokestatic 32, 3) := by decide +kernel
theorem dX8_isInMail_15 : decode cX8_isInMail 15 = .ok (.ireturn, 1) := by decide +kernel
theorem dX8_couldBeReadFor_0 : decode cX8_couldBeReadFor 0 = .ok (.aload_n 0, 1) := by decide +kernel
theorem dX8_couldBeReadFor_1 : decode cX8_couldBeReadFor 1 = .ok (.getfield 36, 3) := by decide +kernel
theorem dX8_couldBeReadFor_4 : decode cX8_couldBeReadFor 4 = .ok (.aload_n 1, 1) := by decide +kernel
theorem dX8_couldBeReadFor_5 : decode cX8_couldBeReadFor 5 = .ok (.getfield 36, 3) := by decide +kernel
theorem dX8_couldBeReadFor_8 : decode cX8_couldBeReadFor 8 = .ok (.if_icmp .ne 20, 3) := by decide +kernel
theorem dX8_couldBeReadFor_11 : decode cX8_couldBeReadFor 11 = .ok (.aload_n 0, 1) := by decide +kernel
theorem dX8_couldBeReadFor_12 : decode cX8_couldBeReadFor 12 = .ok (.getfield 39, 3) := by decide +kernel
theorem dX8_couldBeReadFor_15 : decode cX8_couldBeReadFor 15 = .ok (.aload_n 1, 1) := by decide +kernel
theorem dX8_couldBeReadFor_16 : decode cX8_couldBeReadFor 16 = .ok (.getfield 39, 3) := by decide +kernel
theorem dX8_couldBeReadFor_19 : decode cX8_couldBeReadFor 19 = .ok (.if_icmp .ge 7, 3) := by decide +kernel
theorem dX8_couldBeReadFor_22 : decode cX8_couldBeReadFor 22 = .ok (.iconst 1, 1) := by decide +kernel
theorem dX8_couldBeReadFor_23 : decode cX8_couldBeReadFor 23 = .ok (.goto 4, 3) := by decide +kernel
theorem dX8_couldBeReadFor_26 : decode cX8_couldBeReadFor 26 = .ok (.iconst 0, 1) := by decide +kernel
theorem dX8_couldBeReadFor_27 : decode cX8_couldBeReadFor 27 = .ok (.ireturn, 1) := by decide +kernel
theorem dX8_couldBeReadFor_28 : decode cX8_couldBeReadFor 28 = .ok (.aload_n 0, 1) := by decide +kernel
theorem dX8_couldBeReadFor_29 : decode cX8_couldBeReadFor 29 = .ok (.getfield 21, 3) := by decide +kernel
theorem dX8_couldBeReadFor_32 : decode cX8_couldBeReadFor 32 = .ok (.aload_n 1, 1) := by decide +kernel
theorem dX8_couldBeReadFor_33 : decode cX8_couldBeReadFor 33 = .ok (.getfield 36, 3) := by decide +kernel
theorem dX8_couldBeReadFor_36 : decode cX8_couldBeReadFor 36 = .ok (.invokestatic 32, 3) := by decide +kernel
theorem dX8_couldBeReadFor_39 : decode cX8_couldBeReadFor 39 = .ok (.ifCond .eq 23, 3) := by decide +kernel
theorem dX8_couldBeReadFor_42 : decode cX8_couldBeReadFor 42 = .ok (.aload_n 0, 1) := by decide +kernel
theorem dX8_couldBeReadFor_43 : decode cX8_couldBeReadFor 43 = .ok (.getfield 9, 3) := by decide +kernel
theorem dX8_couldBeReadFor_46 : decode cX8_couldBeReadFor 46 = .ok (.aload_n 1, 1) := by decide +kernel
theorem dX8_couldBeReadFor_47 : decode cX8_couldBeReadFor 47 = .ok (.getfield 36, 3) := by decide +kernel
theorem dX8_couldBeReadFor_50 : decode cX8_couldBeReadFor 50 = .ok (.iaload, 1) := by decide +kernel
theorem dX8_couldBeReadFor_51 : decode cX8_couldBeReadFor 51 = .ok (.aload_n 1, 1) := by decide +kernel
theorem dX8_couldBeReadFor_52 : decode cX8_couldBeReadFor 52 = .ok (.getfield 42, 3) := by decide +kernel
theorem dX8_couldBeReadFor_55 : decode cX8_couldBeReadFor 55 = .ok (.if_icmp .gt 7, 3) := by decide +kernel
theorem dX8_couldBeReadFor_58 : decode cX8_couldBeReadFor 58 = .ok (.iconst 1, 1) := by decide +kernel
theorem dX8_couldBeReadFor_59 : decode cX8_couldBeReadFor 59 = .ok (.goto 4, 3) := by decide +kernel
theorem dX8_couldBeReadFor_62 : decode cX8_couldBeReadFor 62 = .ok (.iconst 0, 1) := by decide +kernel
theorem dX8_couldBeReadFor_63 : decode cX8_couldBeReadFor 63 = .ok (.ireturn, 1) := by decide +kernel
theorem dX8_isRevocationOf_0 : decode cX8_isRevocationOf 0 = .ok (.iconst 0, 1) := by decide +kernel
theorem dX8_isRevocationOf_1 : decode cX8_isRevocationOf 1 = .ok (.ireturn, 1) := by decide +kernel
theorem dX8_isDeputation_0 : decode cX8_isDeputation 0 = .ok (.iconst 0, 1) := by decide +kernel
theorem dX8_isDeputation_1 : decode cX8_isDeputation 1 = .ok (.ireturn, 1) := by decide +kernel
theorem dX8_amountBy_0 : decode cX8_amountBy 0 = .ok (.iconst 0, 1) := by decide +kernel
theorem dX8_amountBy_1 : decode cX8_amountBy 1 = .ok (.ireturn, 1) := by decide +kernel
theorem dX9_init_0 : decode cX9_init 0 = .ok (.aload_n 0, 1) := by decide +kernel
theorem dX9_init_1 : decode cX9_init 1 = .ok (.invokespecial 1, 3) := by decide +kernel
theorem dX9_init_4 : decode cX9_init 4 = .ok (.aload_n 0, 1) := by decide +kernel
theorem dX9_init_5 : decode cX9_init 5 = .ok (.iload_n 1, 1) := by decide +kernel
theorem dX9_init_6 : decode cX9_init 6 = .ok (.putfield 7, 3) := by decide +kernel
theorem dX9_init_9 : decode cX9_init 9 = .ok (.aload_n 0, 1) := by decide +kernel
theorem dX9_init_10 : decode cX9_init 10 = .ok (.aload_n 2, 1) := by decide +kernel
theorem dX9_init_11 : decode cX9_init 11 = .ok (.putfield 13, 3) := by decide +kernel
theorem dX9_init_14 : decode cX9_init 14 = .ok (.aload_n 0, 1) := by decide +kernel
theorem dX9_init_15 : decode cX9_init 15 = .ok (.iload_n 3, 1) := by decide +kernel
theorem dX9_init_16 : decode cX9_init 16 = .ok (.putfield 17, 3) := by decide +kernel
theorem dX9_init_19 : decode cX9_init 19 = .ok (.aload_n 0, 1) := by decide +kernel
theorem dX9_init_20 : decode cX9_init 20 = .ok (.iload 4, 2) := by decide +kernel
theorem dX9_init_22 : decode cX9_init 22 = .ok (.putfield 20, 3) := by decide +kernel
theorem dX9_init_25 : decode cX9_init 25 = .ok (.aload_n 0, 1) := by decide +kernel
theorem dX9_init_26 : decode cX9_init 26 = .ok (.aload 5, 2) := by decide +kernel
theorem dX9_init_28 : decode cX9_init 28 = .ok (.getfield 23, 3) := by decide +kernel
theorem dX9_init_31 : decode cX9_init 31 = .ok (.putfield 28, 3) := by decide +kernel
theorem dX9_init_34 : decode cX9_init 34 = .ok (.aload_n 0, 1) := by decide +kernel
theorem dX9_init_35 : decode cX9_init 35 = .ok (.aload 5, 2) := by decide +kernel
theorem dX9_init_37 : decode cX9_init 37 = .ok (.getfield 29, 3) := by decide +kernel
theorem dX9_init_40 : decode cX9_init 40 = .ok (.putfield 32, 3) := by decide +kernel
theorem dX9_init_43 : decode cX9_init 43 = .ok (.aload_n 0, 1) := by decide +kernel
theorem dX9_init_44 : decode cX9_init 44 = .ok (.aload 5, 2) := by decide +kernel
theorem dX9_init_46 : decode cX9_init 46 = .ok (.getfield 33, 3) := by decide +kernel
theorem dX9_init_49 : decode cX9_init 49 = .ok (.putfield 36, 3) := by decide +kernel
theorem dX9_init_52 : decode cX9_init 52 = .ok (.aload_n 0, 1) := by decide +kernel
theorem dX9_init_53 : decode cX9_init 53 = .ok (.iload 6, 2) := by decide +kernel
theorem dX9_init_55 : decode cX9_init 55 = .ok (.aload 5, 2) := by decide +kernel
theorem dX9_init_57 : decode cX9_init 57 = .ok (.getfield 37, 3) := by decide +kernel
theorem dX9_init_60 : decode cX9_init 60 = .ok (.iadd, 1) := by decide +kernel
theorem dX9_init_61 : decode cX9_init 61 = .ok (.putfield 40, 3) := by decide +kernel
theorem dX9_init_64 : decode cX9_init 64 = .ok (.aload_n 0, 1) := by decide +kernel
theorem dX9_init_65 : decode cX9_init 65 = .ok (.aload 5, 2) := by decide +kernel
theorem dX9_init_67 : decode cX9_init 67 = .ok (.getfield 43, 3) := by decide +kernel
theorem dX9_init_70 : decode cX9_init 70 = .ok (.putfield 46, 3) := by decide +kernel
theorem dX9_init_73 : decode cX9_init 73 = .ok (.return_, 1) := by decide +kernel
theorem dX9_covers_0 : decode cX9_covers 0 = .ok (.aload_n 1, 1) := by decide +kernel
theorem dX9_covers_1 : decode cX9_covers 1 = .ok (.getfield 23, 3) := by decide +kernel
theorem dX9_covers_4 : decode cX9_covers 4 = .ok (.aload_n 0, 1) := by decide +kernel
theorem dX9_covers_5 : decode cX9_covers 5 = .ok (.getfield 28, 3) := by decide +kernel
theorem dX9_covers_8 : decode cX9_covers 8 = .ok (.iconst (-1), 1) := by decide +kernel
theorem dX9_covers_9 : decode cX9_covers 9 = .ok (.ixor, 1) := by decide +kernel
theorem dX9_covers_10 : decode cX9_covers 10 = .ok (.iand, 1) := by decide +kernel
theorem dX9_covers_11 : decode cX9_covers 11 = .ok (.ifCond .ne 53, 3) := by decide +kernel
theorem dX9_covers_14 : decode cX9_covers 14 = .ok (.aload_n 1, 1) := by decide +kernel
theorem dX9_covers_15 : decode cX9_covers 15 = .ok (.getfield 29, 3) := by decide +kernel
theorem dX9_covers_18 : decode cX9_covers 18 = .ok (.aload_n 0, 1) := by decide +kernel
theorem dX9_covers_19 : decode cX9_covers 19 = .ok (.getfield 32, 3) := by decide +kernel
theorem dX9_covers_22 : decode cX9_covers 22 = .ok (.if_icmp .gt 42, 3) := by decide +kernel
theorem dX9_covers_25 : decode cX9_covers 25 = .ok (.aload_n 1, 1) := by decide +kernel
theorem dX9_covers_26 : decode cX9_covers 26 = .ok (.getfield 33, 3) := by decide +kernel
theorem dX9_covers_29 : decode cX9_covers 29 = .ok (.aload_n 0, 1) := by decide +kernel
theorem dX9_covers_30 : decode cX9_covers 30 = .ok (.getfield 36, 3) := by decide +kernel
theorem dX9_covers_33 : decode cX9_covers 33 = .ok (.if_icmp .gt 31, 3) := by decide +kernel
theorem dX9_covers_36 : decode cX9_covers 36 = .ok (.iload_n 2, 1) := by decide +kernel
theorem dX9_covers_37 : decode cX9_covers 37 = .ok (.aload_n 1, 1) := by decide +kernel
theorem dX9_covers_38 : decode cX9_covers 38 = .ok (.getfield 37, 3) := by decide +kernel
theorem dX9_covers_41 : decode cX9_covers 41 = .ok (.iadd, 1) := by decide +kernel
theorem dX9_covers_42 : decode cX9_covers 42 = .ok (.aload_n 0, 1) := by decide +kernel
theorem dX9_covers_43 : decode cX9_covers 43 = .ok (.getfield 40, 3) := by decide +kernel
theorem dX9_covers_46 : decode cX9_covers 46 = .ok (.if_icmp .gt 18, 3) := by decide +kernel
theorem dX9_covers_49 : decode cX9_covers 49 = .ok (.aload_n 1, 1) := by decide +kernel
theorem dX9_covers_50 : decode cX9_covers 50 = .ok (.getfield 43, 3) := by decide +kernel
theorem dX9_covers_53 : decode cX9_covers 53 = .ok (.aload_n 0, 1) := by decide +kernel
theorem dX9_covers_54 : decode cX9_covers 54 = .ok (.getfield 46, 3) := by decide +kernel
theorem dX9_covers_57 : decode cX9_covers 57 = .ok (.if_icmp .ge 7, 3) := by decide +kernel
theorem dX9_covers_60 : decode cX9_covers 60 = .ok (.iconst 1, 1) := by decide +kernel
theorem dX9_covers_61 : decode cX9_covers 61 = .ok (.goto 4, 3) := by decide +kernel
theorem dX9_covers_64 : decode cX9_covers 64 = .ok (.iconst 0, 1) := by decide +kernel
theorem dX9_covers_65 : decode cX9_covers 65 = .ok (.ireturn, 1) := by decide +kernel
theorem dX9_hasInLine_0 : decode cX9_hasInLine 0 = .ok (.aload_n 0, 1) := by decide +kernel
theorem dX9_hasInLine_1 : decode cX9_hasInLine 1 = .ok (.astore_n 2, 1) := by decide +kernel
theorem dX9_hasInLine_2 : decode cX9_hasInLine 2 = .ok (.aload_n 2, 1) := by decide +kernel
theorem dX9_hasInLine_3 : decode cX9_hasInLine 3 = .ok (.ifnull 18, 3) := by decide +kernel
theorem dX9_hasInLine_6 : decode cX9_hasInLine 6 = .ok (.aload_n 2, 1) := by decide +kernel
theorem dX9_hasInLine_7 : decode cX9_hasInLine 7 = .ok (.aload_n 1, 1) := by decide +kernel
theorem dX9_hasInLine_8 : decode cX9_hasInLine 8 = .ok (.if_acmp .ne 5, 3) := by decide +kernel
theorem dX9_hasInLine_11 : decode cX9_hasInLine 11 = .ok (.iconst 1, 1) := by decide +kernel
theorem dX9_hasInLine_12 : decode cX9_hasInLine 12 = .ok (.ireturn, 1) := by decide +kernel
theorem dX9_hasInLine_13 : decode cX9_hasInLine 13 = .ok (.aload_n 2, 1) := by decide +kernel
theorem dX9_hasInLine_14 : decode cX9_hasInLine 14 = .ok (.getfield 13, 3) := by decide +kernel
theorem dX9_hasInLine_17 : decode cX9_hasInLine 17 = .ok (.astore_n 2, 1) := by decide +kernel
theorem dX9_hasInLine_18 : decode cX9_hasInLine 18 = .ok (.goto (-16), 3) := by decide +kernel
theorem dX9_hasInLine_21 : decode cX9_hasInLine 21 = .ok (.iconst 0, 1) := by decide +kernel
theorem dX9_hasInLine_22 : decode cX9_hasInLine 22 = .ok (.ireturn, 1) := by decide +kernel
theorem dX9_hasGiver_0 : decode cX9_hasGiver 0 = .ok (.aload_n 0, 1) := by decide +kernel
theorem dX9_hasGiver_1 : decode cX9_hasGiver 1 = .ok (.astore_n 2, 1) := by decide +kernel
theorem dX9_hasGiver_2 : decode cX9_hasGiver 2 = .ok (.aload_n 2, 1) := by decide +kernel
theorem dX9_hasGiver_3 : decode cX9_hasGiver 3 = .ok (.ifnull 21, 3) := by decide +kernel
theorem dX9_hasGiver_6 : decode cX9_hasGiver 6 = .ok (.aload_n 2, 1) := by decide +kernel
theorem dX9_hasGiver_7 : decode cX9_hasGiver 7 = .ok (.getfield 17, 3) := by decide +kernel
theorem dX9_hasGiver_10 : decode cX9_hasGiver 10 = .ok (.iload_n 1, 1) := by decide +kernel
theorem dX9_hasGiver_11 : decode cX9_hasGiver 11 = .ok (.if_icmp .ne 5, 3) := by decide +kernel
theorem dX9_hasGiver_14 : decode cX9_hasGiver 14 = .ok (.iconst 1, 1) := by decide +kernel
theorem dX9_hasGiver_15 : decode cX9_hasGiver 15 = .ok (.ireturn, 1) := by decide +kernel
theorem dX9_hasGiver_16 : decode cX9_hasGiver 16 = .ok (.aload_n 2, 1) := by decide +kernel
theorem dX9_hasGiver_17 : decode cX9_hasGiver 17 = .ok (.getfield 13, 3) := by decide +kernel
theorem dX9_hasGiver_20 : decode cX9_hasGiver 20 = .ok (.astore_n 2, 1) := by decide +kernel
theorem dX9_hasGiver_21 : decode cX9_hasGiver 21 = .ok (.goto (-19), 3) := by decide +kernel
theorem dX9_hasGiver_24 : decode cX9_hasGiver 24 = .ok (.iconst 0, 1) := by decide +kernel
theorem dX9_hasGiver_25 : decode cX9_hasGiver 25 = .ok (.ireturn, 1) := by decide +kernel
theorem dX9_isOver_0 : decode cX9_isOver 0 = .ok (.aload_n 0, 1) := by decide +kernel
theorem dX9_isOver_1 : decode cX9_isOver 1 = .ok (.astore_n 2, 1) := by decide +kernel
theorem dX9_isOver_2 : decode cX9_isOver 2 = .ok (.aload_n 2, 1) := by decide +kernel
theorem dX9_isOver_3 : decode cX9_isOver 3 = .ok (.ifnull 21, 3) := by decide +kernel
theorem dX9_isOver_6 : decode cX9_isOver 6 = .ok (.iload_n 1, 1) := by decide +kernel
theorem dX9_isOver_7 : decode cX9_isOver 7 = .ok (.aload_n 2, 1) := by decide +kernel
theorem dX9_isOver_8 : decode cX9_isOver 8 = .ok (.getfield 40, 3) := by decide +kernel
theorem dX9_isOver_11 : decode cX9_isOver 11 = .ok (.if_icmp .le 5, 3) := by decide +kernel
theorem dX9_isOver_14 : decode cX9_isOver 14 = .ok (.iconst 1, 1) := by decide +kernel
theorem dX9_isOver_15 : decode cX9_isOver 15 = .ok (.ireturn, 1) := by decide +kernel
theorem dX9_isOver_16 : decode cX9_isOver 16 = .ok (.aload_n 2, 1) := by decide +kernel
theorem dX9_isOver_17 : decode cX9_isOver 17 = .ok (.getfield 13, 3) := by decide +kernel
theorem dX9_isOver_20 : decode cX9_isOver 20 = .ok (.astore_n 2, 1) := by decide +kernel
theorem dX9_isOver_21 : decode cX9_isOver 21 = .ok (.goto (-19), 3) := by decide +kernel
theorem dX9_isOver_24 : decode cX9_isOver 24 = .ok (.iconst 0, 1) := by decide +kernel
theorem dX9_isOver_25 : decode cX9_isOver 25 = .ok (.ireturn, 1) := by decide +kernel
theorem dX9_limitsBelow_0 : decode cX9_limitsBelow 0 = .ok (.aload_n 0, 1) := by decide +kernel
theorem dX9_limitsBelow_1 : decode cX9_limitsBelow 1 = .ok (.astore_n 2, 1) := by decide +kernel
theorem dX9_limitsBelow_2 : decode cX9_limitsBelow 2 = .ok (.aload_n 2, 1) := by decide +kernel
theorem dX9_limitsBelow_3 : decode cX9_limitsBelow 3 = .ok (.ifnull 21, 3) := by decide +kernel
theorem dX9_limitsBelow_6 : decode cX9_limitsBelow 6 = .ok (.iload_n 1, 1) := by decide +kernel
theorem dX9_limitsBelow_7 : decode cX9_limitsBelow 7 = .ok (.aload_n 2, 1) := by decide +kernel
theorem dX9_limitsBelow_8 : decode cX9_limitsBelow 8 = .ok (.getfield 32, 3) := by decide +kernel
theorem dX9_limitsBelow_11 : decode cX9_limitsBelow 11 = .ok (.if_icmp .le 5, 3) := by decide +kernel
theorem dX9_limitsBelow_14 : decode cX9_limitsBelow 14 = .ok (.iconst 1, 1) := by decide +kernel
theorem dX9_limitsBelow_15 : decode cX9_limitsBelow 15 = .ok (.ireturn, 1) := by decide +kernel
theorem dX9_limitsBelow_16 : decode cX9_limitsBelow 16 = .ok (.aload_n 2, 1) := by decide +kernel
theorem dX9_limitsBelow_17 : decode cX9_limitsBelow 17 = .ok (.getfield 13, 3) := by decide +kernel
theorem dX9_limitsBelow_20 : decode cX9_limitsBelow 20 = .ok (.astore_n 2, 1) := by decide +kernel
theorem dX9_limitsBelow_21 : decode cX9_limitsBelow 21 = .ok (.goto (-19), 3) := by decide +kernel
theorem dX9_limitsBelow_24 : decode cX9_limitsBelow 24 = .ok (.iconst 0, 1) := by decide +kernel
theorem dX9_limitsBelow_25 : decode cX9_limitsBelow 25 = .ok (.ireturn, 1) := by decide +kernel
theorem dX10_init_0 : decode cX10_init 0 = .ok (.aload_n 0, 1) := by decide +kernel
theorem dX10_init_1 : decode cX10_init 1 = .ok (.invokespecial 1, 3) := by decide +kernel
theorem dX10_init_4 : decode cX10_init 4 = .ok (.aload_n 0, 1) := by decide +kernel
theorem dX10_init_5 : decode cX10_init 5 = .ok (.aload_n 1, 1) := by decide +kernel
theorem dX10_init_6 : decode cX10_init 6 = .ok (.putfield 7, 3) := by decide +kernel
theorem dX10_init_9 : decode cX10_init 9 = .ok (.return_, 1) := by decide +kernel
theorem dX10_isRevocationOf_0 : decode cX10_isRevocationOf 0 = .ok (.aload_n 0, 1) := by decide +kernel
theorem dX10_isRevocationOf_1 : decode cX10_isRevocationOf 1 = .ok (.getfield 7, 3) := by decide +kernel
theorem dX10_isRevocationOf_4 : decode cX10_isRevocationOf 4 = .ok (.aload_n 1, 1) := by decide +kernel
theorem dX10_isRevocationOf_5 : decode cX10_isRevocationOf 5 = .ok (.if_acmp .ne 7, 3) := by decide +kernel
theorem dX10_isRevocationOf_8 : decode cX10_isRevocationOf 8 = .ok (.iconst 1, 1) := by decide +kernel
theorem dX10_isRevocationOf_9 : decode cX10_isRevocationOf 9 = .ok (.goto 4, 3) := by decide +kernel
theorem dX10_isRevocationOf_12 : decode cX10_isRevocationOf 12 = .ok (.iconst 0, 1) := by decide +kernel
theorem dX10_isRevocationOf_13 : decode cX10_isRevocationOf 13 = .ok (.ireturn, 1) := by decide +kernel
theorem dX11_init_0 : decode cX11_init 0 = .ok (.aload_n 0, 1) := by decide +kernel
theorem dX11_init_1 : decode cX11_init 1 = .ok (.invokespecial 1, 3) := by decide +kernel
theorem dX11_init_4 : decode cX11_init 4 = .ok (.aload_n 0, 1) := by decide +kernel
theorem dX11_init_5 : decode cX11_init 5 = .ok (.new 7, 3) := by decide +kernel
theorem dX11_init_8 : decode cX11_init 8 = .ok (.dup, 1) := by decide +kernel
theorem dX11_init_9 : decode cX11_init 9 = .ok (.invokespecial 9, 3) := by decide +kernel
theorem dX11_init_12 : decode cX11_init 12 = .ok (.putfield 10, 3) := by decide +kernel
theorem dX11_init_15 : decode cX11_init 15 = .ok (.aload_n 0, 1) := by decide +kernel
theorem dX11_init_16 : decode cX11_init 16 = .ok (.new 16, 3) := by decide +kernel
theorem dX11_init_19 : decode cX11_init 19 = .ok (.dup, 1) := by decide +kernel
theorem dX11_init_20 : decode cX11_init 20 = .ok (.invokespecial 18, 3) := by decide +kernel
theorem dX11_init_23 : decode cX11_init 23 = .ok (.putfield 19, 3) := by decide +kernel
theorem dX11_init_26 : decode cX11_init 26 = .ok (.aload_n 0, 1) := by decide +kernel
theorem dX11_init_27 : decode cX11_init 27 = .ok (.new 23, 3) := by decide +kernel
theorem dX11_init_30 : decode cX11_init 30 = .ok (.dup, 1) := by decide +kernel
theorem dX11_init_31 : decode cX11_init 31 = .ok (.invokespecial 25, 3) := by decide +kernel
theorem dX11_init_34 : decode cX11_init 34 = .ok (.putfield 26, 3) := by decide +kernel
theorem dX11_init_37 : decode cX11_init 37 = .ok (.aload_n 0, 1) := by decide +kernel
theorem dX11_init_38 : decode cX11_init 38 = .ok (.bipush 6, 2) := by decide +kernel
theorem dX11_init_40 : decode cX11_init 40 = .ok (.anewarray 30, 3) := by decide +kernel
theorem dX11_init_43 : decode cX11_init 43 = .ok (.putfield 32, 3) := by decide +kernel
theorem dX11_init_46 : decode cX11_init 46 = .ok (.iconst 0, 1) := by decide +kernel
theorem dX11_init_47 : decode cX11_init 47 = .ok (.istore_n 1, 1) := by decide +kernel
theorem dX11_init_48 : decode cX11_init 48 = .ok (.iload_n 1, 1) := by decide +kernel
theorem dX11_init_49 : decode cX11_init 49 = .ok (.bipush 6, 2) := by decide +kernel
theorem dX11_init_51 : decode cX11_init 51 = .ok (.if_icmp .ge 23, 3) := by decide +kernel
theorem dX11_init_54 : decode cX11_init 54 = .ok (.aload_n 0, 1) := by decide +kernel
theorem dX11_init_55 : decode cX11_init 55 = .ok (.getfield 32, 3) := by decide +kernel
theorem dX11_init_58 : decode cX11_init 58 = .ok (.iload_n 1, 1) := by decide +kernel
theorem dX11_init_59 : decode cX11_init 59 = .ok (.new 30, 3) := by decide +kernel
theorem dX11_init_62 : decode cX11_init 62 = .ok (.dup, 1) := by decide +kernel
theorem dX11_init_63 : decode cX11_init 63 = .ok (.iload_n 1, 1) := by decide +kernel
theorem dX11_init_64 : decode cX11_init 64 = .ok (.invokespecial 36, 3) := by decide +kernel
theorem dX11_init_67 : decode cX11_init 67 = .ok (.aastore, 1) := by decide +kernel
theorem dX11_init_68 : decode cX11_init 68 = .ok (.iinc 1 1, 3) := by decide +kernel
theorem dX11_init_71 : decode cX11_init 71 = .ok (.goto (-23), 3) := by decide +kernel
theorem dX11_init_74 : decode cX11_init 74 = .ok (.aload_n 0, 1) := by decide +kernel
theorem dX11_init_75 : decode cX11_init 75 = .ok (.new 23, 3) := by decide +kernel
theorem dX11_init_78 : decode cX11_init 78 = .ok (.dup, 1) := by decide +kernel
theorem dX11_init_79 : decode cX11_init 79 = .ok (.invokespecial 25, 3) := by decide +kernel
theorem dX11_init_82 : decode cX11_init 82 = .ok (.putfield 39, 3) := by decide +kernel
theorem dX11_init_85 : decode cX11_init 85 = .ok (.aload_n 0, 1) := by decide +kernel
theorem dX11_init_86 : decode cX11_init 86 = .ok (.iconst 0, 1) := by decide +kernel
theorem dX11_init_87 : decode cX11_init 87 = .ok (.putfield 42, 3) := by decide +kernel
theorem dX11_init_90 : decode cX11_init 90 = .ok (.aload_n 0, 1) := by decide +kernel
theorem dX11_init_91 : decode cX11_init 91 = .ok (.new 46, 3) := by decide +kernel
theorem dX11_init_94 : decode cX11_init 94 = .ok (.dup, 1) := by decide +kernel
theorem dX11_init_95 : decode cX11_init 95 = .ok (.bipush 63, 2) := by decide +kernel
theorem dX11_init_97 : decode cX11_init 97 = .ok (.sipush 10000, 3) := by decide +kernel
theorem dX11_init_100 : decode cX11_init 100 = .ok (.ldc 48, 2) := by decide +kernel
theorem dX11_init_102 : decode cX11_init 102 = .ok (.bipush 100, 2) := by decide +kernel
theorem dX11_init_104 : decode cX11_init 104 = .ok (.iconst 0, 1) := by decide +kernel
theorem dX11_init_105 : decode cX11_init 105 = .ok (.invokespecial 49, 3) := by decide +kernel
theorem dX11_init_108 : decode cX11_init 108 = .ok (.putfield 52, 3) := by decide +kernel
theorem dX11_init_111 : decode cX11_init 111 = .ok (.aload_n 0, 1) := by decide +kernel
theorem dX11_init_112 : decode cX11_init 112 = .ok (.iconst 0, 1) := by decide +kernel
theorem dX11_init_113 : decode cX11_init 113 = .ok (.putfield 56, 3) := by decide +kernel
theorem dX11_init_116 : decode cX11_init 116 = .ok (.aload_n 0, 1) := by decide +kernel
theorem dX11_init_117 : decode cX11_init 117 = .ok (.iconst 0, 1) := by decide +kernel
theorem dX11_init_118 : decode cX11_init 118 = .ok (.putfield 59, 3) := by decide +kernel
theorem dX11_init_121 : decode cX11_init 121 = .ok (.return_, 1) := by decide +kernel
theorem dX11_join_0 : decode cX11_join 0 = .ok (.iload_n 1, 1) := by decide +kernel
theorem dX11_join_1 : decode cX11_join 1 = .ok (.iload_n 2, 1) := by decide +kernel
theorem dX11_join_2 : decode cX11_join 2 = .ok (.invokestatic 62, 3) := by decide +kernel
theorem dX11_join_5 : decode cX11_join 5 = .ok (.aload_n 0, 1) := by decide +kernel
theorem dX11_join_6 : decode cX11_join 6 = .ok (.getfield 10, 3) := by decide +kernel
theorem dX11_join_9 : decode cX11_join 9 = .ok (.iload_n 1, 1) := by decide +kernel
theorem dX11_join_10 : decode cX11_join 10 = .ok (.iload_n 2, 1) := by decide +kernel
theorem dX11_join_11 : decode cX11_join 11 = .ok (.invokevirtual 66, 3) := by decide +kernel
theorem dX11_join_14 : decode cX11_join 14 = .ok (.ifCond .eq 13, 3) := by decide +kernel
theorem dX11_join_17 : decode cX11_join 17 = .ok (.new 70, 3) := by decide +kernel
theorem dX11_join_20 : decode cX11_join 20 = .ok (.dup, 1) := by decide +kernel
theorem dX11_join_21 : decode cX11_join 21 = .ok (.ldc 72, 2) := by decide +kernel
theorem dX11_join_23 : decode cX11_join 23 = .ok (.invokespecial 74, 3) := by decide +kernel
theorem dX11_join_26 : decode cX11_join 26 = .ok (.athrow, 1) := by decide +kernel
theorem dX11_join_27 : decode cX11_join 27 = .ok (.aload_n 0, 1) := by decide +kernel
theorem dX11_join_28 : decode cX11_join 28 = .ok (.getfield 10, 3) := by decide +kernel
theorem dX11_join_31 : decode cX11_join 31 = .ok (.iload_n 1, 1) := by decide +kernel
theorem dX11_join_32 : decode cX11_join 32 = .ok (.iload_n 2, 1) := by decide +kernel
theorem dX11_join_33 : decode cX11_join 33 = .ok (.invokevirtual 77, 3) := by decide +kernel
theorem dX11_join_36 : decode cX11_join 36 = .ok (.aload_n 0, 1) := by decide +kernel
theorem dX11_join_37 : decode cX11_join 37 = .ok (.getfield 10, 3) := by decide +kernel
theorem dX11_join_40 : decode cX11_join 40 = .ok (.iload_n 1, 1) := by decide +kernel
theorem dX11_join_41 : decode cX11_join 41 = .ok (.invokevirtual 80, 3) := by decide +kernel
theorem dX11_join_44 : decode cX11_join 44 = .ok (.ireturn, 1) := by decide +kernel
theorem dX11_cut_0 : decode cX11_cut 0 = .ok (.iload_n 1, 1) := by decide +kernel
theorem dX11_cut_1 : decode cX11_cut 1 = .ok (.iload_n 2, 1) := by decide +kernel
theorem dX11_cut_2 : decode cX11_cut 2 = .ok (.invokestatic 62, 3) := by decide +kernel
theorem dX11_cut_5 : decode cX11_cut 5 = .ok (.aload_n 0, 1) := by decide +kernel
theorem dX11_cut_6 : decode cX11_cut 6 = .ok (.getfield 10, 3) := by decide +kernel
theorem dX11_cut_9 : decode cX11_cut 9 = .ok (.iload_n 1, 1) := by decide +kernel
theorem dX11_cut_10 : decode cX11_cut 10 = .ok (.iload_n 2, 1) := by decide +kernel
theorem dX11_cut_11 : decode cX11_cut 11 = .ok (.invokevirtual 66, 3) := by decide +kernel
theorem dX11_cut_14 : decode cX11_cut 14 = .ok (.ifCond .ne 13, 3) := by decide +kernel
theorem dX11_cut_17 : decode cX11_cut 17 = .ok (.new 70, 3) := by decide +kernel
theorem dX11_cut_20 : decode cX11_cut 20 = .ok (.dup, 1) := by decide +kernel
theorem dX11_cut_21 : decode cX11_cut 21 = .ok (.ldc 84, 2) := by decide +kernel
theorem dX11_cut_23 : decode cX11_cut 23 = .ok (.invokespecial 74, 3) := by decide +kernel
theorem dX11_cut_26 : decode cX11_cut 26 = .ok (.athrow, 1) := by decide +kernel
theorem dX11_cut_27 : decode cX11_cut 27 = .ok (.aload_n 0, 1) := by decide +kernel
theorem dX11_cut_28 : decode cX11_cut 28 = .ok (.getfield 10, 3) := by decide +kernel
theorem dX11_cut_31 : decode cX11_cut 31 = .ok (.iload_n 1, 1) := by decide +kernel
theorem dX11_cut_32 : decode cX11_cut 32 = .ok (.iload_n 2, 1) := by decide +kernel
theorem dX11_cut_33 : decode cX11_cut 33 = .ok (.invokevirtual 77, 3) := by decide +kernel
theorem dX11_cut_36 : decode cX11_cut 36 = .ok (.aload_n 0, 1) := by decide +kernel
theorem dX11_cut_37 : decode cX11_cut 37 = .ok (.getfield 10, 3) := by decide +kernel
theorem dX11_cut_40 : decode cX11_cut 40 = .ok (.iload_n 1, 1) := by decide +kernel
theorem dX11_cut_41 : decode cX11_cut 41 = .ok (.invokevirtual 80, 3) := by decide +kernel
theorem dX11_cut_44 : decode cX11_cut 44 = .ok (.ireturn, 1) := by decide +kernel
theorem dX11_pass_0 : decode cX11_pass 0 = .ok (.iload_n 1, 1) := by decide +kernel
theorem dX11_pass_1 : decode cX11_pass 1 = .ok (.iconst 1, 1) := by decide +kernel
theorem dX11_pass_2 : decode cX11_pass 2 = .ok (.bipush 50, 2) := by decide +kernel
theorem dX11_pass_4 : decode cX11_pass 4 = .ok (.invokestatic 86, 3) := by decide +kernel
theorem dX11_pass_7 : decode cX11_pass 7 = .ok (.aload_n 0, 1) := by decide +kernel
theorem dX11_pass_8 : decode cX11_pass 8 = .ok (.getfield 42, 3) := by decide +kernel
theorem dX11_pass_11 : decode cX11_pass 11 = .ok (.iload_n 1, 1) := by decide +kernel
theorem dX11_pass_12 : decode cX11_pass 12 = .ok (.iadd, 1) := by decide +kernel
theorem dX11_pass_13 : decode cX11_pass 13 = .ok (.sipush 400, 3) := by decide +kernel
theorem dX11_pass_16 : decode cX11_pass 16 = .ok (.if_icmp .le 13, 3) := by decide +kernel
theorem dX11_pass_19 : decode cX11_pass 19 = .ok (.new 70, 3) := by decide +kernel
theorem dX11_pass_22 : decode cX11_pass 22 = .ok (.dup, 1) := by decide +kernel
theorem dX11_pass_23 : decode cX11_pass 23 = .ok (.ldc 90, 2) := by decide +kernel
theorem dX11_pass_25 : decode cX11_pass 25 = .ok (.invokespecial 74, 3) := by decide +kernel
theorem dX11_pass_28 : decode cX11_pass 28 = .ok (.athrow, 1) := by decide +kernel
theorem dX11_pass_29 : decode cX11_pass 29 = .ok (.iconst 0, 1) := by decide +kernel
theorem dX11_pass_30 : decode cX11_pass 30 = .ok (.istore_n 2, 1) := by decide +kernel
theorem dX11_pass_31 : decode cX11_pass 31 = .ok (.iconst 0, 1) := by decide +kernel
theorem dX11_pass_32 : decode cX11_pass 32 = .ok (.istore_n 3, 1) := by decide +kernel
theorem dX11_pass_33 : decode cX11_pass 33 = .ok (.iload_n 3, 1) := by decide +kernel
theorem dX11_pass_34 : decode cX11_pass 34 = .ok (.iload_n 1, 1) := by decide +kernel
theorem dX11_pass_35 : decode cX11_pass 35 = .ok (.if_icmp .ge 48, 3) := by decide +kernel
theorem dX11_pass_38 : decode cX11_pass 38 = .ok (.aload_n 0, 1) := by decide +kernel
theorem dX11_pass_39 : decode cX11_pass 39 = .ok (.dup, 1) := by decide +kernel
theorem dX11_pass_40 : decode cX11_pass 40 = .ok (.getfield 42, 3) := by decide +kernel
theorem dX11_pass_43 : decode cX11_pass 43 = .ok (.iconst 1, 1) := by decide +kernel
theorem dX11_pass_44 : decode cX11_pass 44 = .ok (.iadd, 1) := by decide +kernel
theorem dX11_pass_45 : decode cX11_pass 45 = .ok (.putfield 42, 3) := by decide +kernel
theorem dX11_pass_48 : decode cX11_pass 48 = .ok (.aload_n 0, 1) := by decide +kernel
theorem dX11_pass_49 : decode cX11_pass 49 = .ok (.getfield 10, 3) := by decide +kernel
theorem dX11_pass_52 : decode cX11_pass 52 = .ok (.aload_n 0, 1) := by decide +kernel
theorem dX11_pass_53 : decode cX11_pass 53 = .ok (.getfield 42, 3) := by decide +kernel
theorem dX11_pass_56 : decode cX11_pass 56 = .ok (.invokevirtual 92, 3) := by decide +kernel
theorem dX11_pass_59 : decode cX11_pass 59 = .ok (.iload_n 2, 1) := by decide +kernel
theorem dX11_pass_60 : decode cX11_pass 60 = .ok (.aload_n 0, 1) := by decide +kernel
theorem dX11_pass_61 : decode cX11_pass 61 = .ok (.getfield 19, 3) := by decide +kernel
theorem dX11_pass_64 : decode cX11_pass 64 = .ok (.aload_n 0, 1) := by decide +kernel
theorem dX11_pass_65 : decode cX11_pass 65 = .ok (.getfield 10, 3) := by decide +kernel
theorem dX11_pass_68 : decode cX11_pass 68 = .ok (.aload_n 0, 1) := by decide +kernel
theorem dX11_pass_69 : decode cX11_pass 69 = .ok (.getfield 42, 3) := by decide +kernel
theorem dX11_pass_72 : decode cX11_pass 72 = .ok (.invokevirtual 95, 3) := by decide +kernel
theorem dX11_pass_75 : decode cX11_pass 75 = .ok (.iadd, 1) := by decide +kernel
theorem dX11_pass_76 : decode cX11_pass 76 = .ok (.istore_n 2, 1) := by decide +kernel
theorem dX11_pass_77 : decode cX11_pass 77 = .ok (.iinc 3 1, 3) := by decide +kernel
theorem dX11_pass_80 : decode cX11_pass 80 = .ok (.goto (-47), 3) := by decide +kernel
theorem dX11_pass_83 : decode cX11_pass 83 = .ok (.iload_n 2, 1) := by decide +kernel
theorem dX11_pass_84 : decode cX11_pass 84 = .ok (.ireturn, 1) := by decide +kernel
theorem dX11_read_0 : decode cX11_read 0 = .ok (.iload_n 1, 1) := by decide +kernel
theorem dX11_read_1 : decode cX11_read 1 = .ok (.invokestatic 99, 3) := by decide +kernel
theorem dX11_read_4 : decode cX11_read 4 = .ok (.aload_n 0, 1) := by decide +kernel
theorem dX11_read_5 : decode cX11_read 5 = .ok (.getfield 19, 3) := by decide +kernel
theorem dX11_read_8 : decode cX11_read 8 = .ok (.iload_n 1, 1) := by decide +kernel
theorem dX11_read_9 : decode cX11_read 9 = .ok (.invokevirtual 102, 3) := by decide +kernel
theorem dX11_read_12 : decode cX11_read 12 = .ok (.ireturn, 1) := by decide +kernel
theorem dX11_draft_0 : decode cX11_draft 0 = .ok (.iload_n 1, 1) := by decide +kernel
theorem dX11_draft_1 : decode cX11_draft 1 = .ok (.iconst 1, 1) := by decide +kernel
theorem dX11_draft_2 : decode cX11_draft 2 = .ok (.bipush 63, 2) := by decide +kernel
theorem dX11_draft_4 : decode cX11_draft 4 = .ok (.invokestatic 86, 3) := by decide +kernel
theorem dX11_draft_7 : decode cX11_draft 7 = .ok (.iload_n 2, 1) := by decide +kernel
theorem dX11_draft_8 : decode cX11_draft 8 = .ok (.iconst 1, 1) := by decide +kernel
theorem dX11_draft_9 : decode cX11_draft 9 = .ok (.sipush 10000, 3) := by decide +kernel
theorem dX11_draft_12 : decode cX11_draft 12 = .ok (.invokestatic 86, 3) := by decide +kernel
theorem dX11_draft_15 : decode cX11_draft 15 = .ok (.iload_n 3, 1) := by decide +kernel
theorem dX11_draft_16 : decode cX11_draft 16 = .ok (.iconst 1, 1) := by decide +kernel
theorem dX11_draft_17 : decode cX11_draft 17 = .ok (.ldc 48, 2) := by decide +kernel
theorem dX11_draft_19 : decode cX11_draft 19 = .ok (.invokestatic 86, 3) := by decide +kernel
theorem dX11_draft_22 : decode cX11_draft 22 = .ok (.iload 4, 2) := by decide +kernel
theorem dX11_draft_24 : decode cX11_draft 24 = .ok (.iconst 0, 1) := by decide +kernel
theorem dX11_draft_25 : decode cX11_draft 25 = .ok (.sipush 400, 3) := by decide +kernel
theorem dX11_draft_28 : decode cX11_draft 28 = .ok (.invokestatic 86, 3) := by decide +kernel
theorem dX11_draft_31 : decode cX11_draft 31 = .ok (.iload 5, 2) := by decide +kernel
theorem dX11_draft_33 : decode cX11_draft 33 = .ok (.iconst 0, 1) := by decide +kernel
theorem dX11_draft_34 : decode cX11_draft 34 = .ok (.iconst 3, 1) := by decide +kernel
theorem dX11_draft_35 : decode cX11_draft 35 = .ok (.invokestatic 86, 3) := by decide +kernel
theorem dX11_draft_38 : decode cX11_draft 38 = .ok (.aload_n 0, 1) := by decide +kernel
theorem dX11_draft_39 : decode cX11_draft 39 = .ok (.new 46, 3) := by decide +kernel
theorem dX11_draft_42 : decode cX11_draft 42 = .ok (.dup, 1) := by decide +kernel
theorem dX11_draft_43 : decode cX11_draft 43 = .ok (.iload_n 1, 1) := by decide +kernel
theorem dX11_draft_44 : decode cX11_draft 44 = .ok (.iload_n 2, 1) := by decide +kernel
theorem dX11_draft_45 : decode cX11_draft 45 = .ok (.iload_n 3, 1) := by decide +kernel
theorem dX11_draft_46 : decode cX11_draft 46 = .ok (.iload 4, 2) := by decide +kernel
theorem dX11_draft_48 : decode cX11_draft 48 = .ok (.iload 5, 2) := by decide +kernel
theorem dX11_draft_50 : decode cX11_draft 50 = .ok (.invokespecial 49, 3) := by decide +kernel
theorem dX11_draft_53 : decode cX11_draft 53 = .ok (.putfield 52, 3) := by decide +kernel
theorem dX11_draft_56 : decode cX11_draft 56 = .ok (.return_, 1) := by decide +kernel
theorem dX11_grant_0 : decode cX11_grant 0 = .ok (.iload_n 1, 1) := by decide +kernel
theorem dX11_grant_1 : decode cX11_grant 1 = .ok (.invokestatic 99, 3) := by decide +kernel
theorem dX11_grant_4 : decode cX11_grant 4 = .ok (.iload_n 2, 1) := by decide +kernel
theorem dX11_grant_5 : decode cX11_grant 5 = .ok (.invokestatic 105, 3) := by decide +kernel
theorem dX11_grant_8 : decode cX11_grant 8 = .ok (.iload_n 3, 1) := by decide +kernel
theorem dX11_grant_9 : decode cX11_grant 9 = .ok (.invokestatic 105, 3) := by decide +kernel
theorem dX11_grant_12 : decode cX11_grant 12 = .ok (.iload_n 2, 1) := by decide +kernel
theorem dX11_grant_13 : decode cX11_grant 13 = .ok (.iload_n 3, 1) := by decide +kernel
theorem dX11_grant_14 : decode cX11_grant 14 = .ok (.invokestatic 108, 3) := by decide +kernel
theorem dX11_grant_17 : decode cX11_grant 17 = .ok (.aload_n 0, 1) := by decide +kernel
theorem dX11_grant_18 : decode cX11_grant 18 = .ok (.invokevirtual 111, 3) := by decide +kernel
theorem dX11_grant_21 : decode cX11_grant 21 = .ok (.aload_n 0, 1) := by decide +kernel
theorem dX11_grant_22 : decode cX11_grant 22 = .ok (.iload_n 1, 1) := by decide +kernel
theorem dX11_grant_23 : decode cX11_grant 23 = .ok (.aconst_null, 1) := by decide +kernel
theorem dX11_grant_24 : decode cX11_grant 24 = .ok (.iload_n 2, 1) := by decide +kernel
theorem dX11_grant_25 : decode cX11_grant 25 = .ok (.iload_n 3, 1) := by decide +kernel
theorem dX11_grant_26 : decode cX11_grant 26 = .ok (.invokevirtual 114, 3) := by decide +kernel
theorem dX11_grant_29 : decode cX11_grant 29 = .ok (.ireturn, 1) := by decide +kernel
theorem dX11_passOn_0 : decode cX11_passOn 0 = .ok (.iload_n 1, 1) := by decide +kernel
theorem dX11_passOn_1 : decode cX11_passOn 1 = .ok (.invokestatic 99, 3) := by decide +kernel
theorem dX11_passOn_4 : decode cX11_passOn 4 = .ok (.aload_n 0, 1) := by decide +kernel
theorem dX11_passOn_5 : decode cX11_passOn 5 = .ok (.iload_n 2, 1) := by decide +kernel
theorem dX11_passOn_6 : decode cX11_passOn 6 = .ok (.invokevirtual 118, 3) := by decide +kernel
theorem dX11_passOn_9 : decode cX11_passOn 9 = .ok (.iload_n 3, 1) := by decide +kernel
theorem dX11_passOn_10 : decode cX11_passOn 10 = .ok (.invokestatic 105, 3) := by decide +kernel
theorem dX11_passOn_13 : decode cX11_passOn 13 = .ok (.aload_n 0, 1) := by decide +kernel
theorem dX11_passOn_14 : decode cX11_passOn 14 = .ok (.getfield 26, 3) := by decide +kernel
theorem dX11_passOn_17 : decode cX11_passOn 17 = .ok (.iload_n 2, 1) := by decide +kernel
theorem dX11_passOn_18 : decode cX11_passOn 18 = .ok (.invokevirtual 121, 3) := by decide +kernel
theorem dX11_passOn_21 : decode cX11_passOn 21 = .ok (.checkcast 125, 3) := by decide +kernel
theorem dX11_passOn_24 : decode cX11_passOn 24 = .ok (.astore 4, 2) := by decide +kernel
theorem dX11_passOn_26 : decode cX11_passOn 26 = .ok (.aload 4, 2) := by decide +kernel
theorem dX11_passOn_28 : decode cX11_passOn 28 = .ok (.getfield 127, 3) := by decide +kernel
theorem dX11_passOn_31 : decode cX11_passOn 31 = .ok (.iload_n 3, 1) := by decide +kernel
theorem dX11_passOn_32 : decode cX11_passOn 32 = .ok (.invokestatic 108, 3) := by decide +kernel
theorem dX11_passOn_35 : decode cX11_passOn 35 = .ok (.aload 4, 2) := by decide +kernel
theorem dX11_passOn_37 : decode cX11_passOn 37 = .ok (.aload_n 0, 1) := by decide +kernel
theorem dX11_passOn_38 : decode cX11_passOn 38 = .ok (.getfield 52, 3) := by decide +kernel
theorem dX11_passOn_41 : decode cX11_passOn 41 = .ok (.aload_n 0, 1) := by decide +kernel
theorem dX11_passOn_42 : decode cX11_passOn 42 = .ok (.getfield 42, 3) := by decide +kernel
theorem dX11_passOn_45 : decode cX11_passOn 45 = .ok (.invokevirtual 130, 3) := by decide +kernel
theorem dX11_passOn_48 : decode cX11_passOn 48 = .ok (.ifCond .ne 13, 3) := by decide +kernel
theorem dX11_passOn_51 : decode cX11_passOn 51 = .ok (.new 134, 3) := by decide +kernel
theorem dX11_passOn_54 : decode cX11_passOn 54 = .ok (.dup, 1) := by decide +kernel
theorem dX11_passOn_55 : decode cX11_passOn 55 = .ok (.ldc 136, 2) := by decide +kernel
theorem dX11_passOn_57 : decode cX11_passOn 57 = .ok (.invokespecial 138, 3) := by decide +kernel
theorem dX11_passOn_60 : decode cX11_passOn 60 = .ok (.athrow, 1) := by decide +kernel
theorem dX11_passOn_61 : decode cX11_passOn 61 = .ok (.aload_n 0, 1) := by decide +kernel
theorem dX11_passOn_62 : decode cX11_passOn 62 = .ok (.invokevirtual 111, 3) := by decide +kernel
theorem dX11_passOn_65 : decode cX11_passOn 65 = .ok (.aload_n 0, 1) := by decide +kernel
theorem dX11_passOn_66 : decode cX11_passOn 66 = .ok (.iload_n 1, 1) := by decide +kernel
theorem dX11_passOn_67 : decode cX11_passOn 67 = .ok (.aload 4, 2) := by decide +kernel
theorem dX11_passOn_69 : decode cX11_passOn 69 = .ok (.invokevirtual 139, 3) := by decide +kernel
theorem dX11_passOn_72 : decode cX11_passOn 72 = .ok (.ifCond .ne 13, 3) := by decide +kernel
theorem dX11_passOn_75 : decode cX11_passOn 75 = .ok (.new 70, 3) := by decide +kernel
theorem dX11_passOn_78 : decode cX11_passOn 78 = .ok (.dup, 1) := by decide +kernel
theorem dX11_passOn_79 : decode cX11_passOn 79 = .ok (.ldc 143, 2) := by decide +kernel
theorem dX11_passOn_81 : decode cX11_passOn 81 = .ok (.invokespecial 74, 3) := by decide +kernel
theorem dX11_passOn_84 : decode cX11_passOn 84 = .ok (.athrow, 1) := by decide +kernel
theorem dX11_passOn_85 : decode cX11_passOn 85 = .ok (.aload_n 0, 1) := by decide +kernel
theorem dX11_passOn_86 : decode cX11_passOn 86 = .ok (.iload_n 1, 1) := by decide +kernel
theorem dX11_passOn_87 : decode cX11_passOn 87 = .ok (.aload 4, 2) := by decide +kernel
theorem dX11_passOn_89 : decode cX11_passOn 89 = .ok (.aload 4, 2) := by decide +kernel
theorem dX11_passOn_91 : decode cX11_passOn 91 = .ok (.getfield 127, 3) := by decide +kernel
theorem dX11_passOn_94 : decode cX11_passOn 94 = .ok (.iload_n 3, 1) := by decide +kernel
theorem dX11_passOn_95 : decode cX11_passOn 95 = .ok (.invokevirtual 114, 3) := by decide +kernel
theorem dX11_passOn_98 : decode cX11_passOn 98 = .ok (.ireturn, 1) := by decide +kernel
theorem dX11_revoke_0 : decode cX11_revoke 0 = .ok (.iload_n 1, 1) := by decide +kernel
theorem dX11_revoke_1 : decode cX11_revoke 1 = .ok (.invokestatic 99, 3) := by decide +kernel
theorem dX11_revoke_4 : decode cX11_revoke 4 = .ok (.iload_n 2, 1) := by decide +kernel
theorem dX11_revoke_5 : decode cX11_revoke 5 = .ok (.invokestatic 105, 3) := by decide +kernel
theorem dX11_revoke_8 : decode cX11_revoke 8 = .ok (.aload_n 0, 1) := by decide +kernel
theorem dX11_revoke_9 : decode cX11_revoke 9 = .ok (.iload_n 3, 1) := by decide +kernel
theorem dX11_revoke_10 : decode cX11_revoke 10 = .ok (.invokevirtual 118, 3) := by decide +kernel
theorem dX11_revoke_13 : decode cX11_revoke 13 = .ok (.aload_n 0, 1) := by decide +kernel
theorem dX11_revoke_14 : decode cX11_revoke 14 = .ok (.getfield 26, 3) := by decide +kernel
theorem dX11_revoke_17 : decode cX11_revoke 17 = .ok (.iload_n 3, 1) := by decide +kernel
theorem dX11_revoke_18 : decode cX11_revoke 18 = .ok (.invokevirtual 121, 3) := by decide +kernel
theorem dX11_revoke_21 : decode cX11_revoke 21 = .ok (.checkcast 125, 3) := by decide +kernel
theorem dX11_revoke_24 : decode cX11_revoke 24 = .ok (.astore 4, 2) := by decide +kernel
theorem dX11_revoke_26 : decode cX11_revoke 26 = .ok (.aload 4, 2) := by decide +kernel
theorem dX11_revoke_28 : decode cX11_revoke 28 = .ok (.iload_n 2, 1) := by decide +kernel
theorem dX11_revoke_29 : decode cX11_revoke 29 = .ok (.invokevirtual 145, 3) := by decide +kernel
theorem dX11_revoke_32 : decode cX11_revoke 32 = .ok (.ifCond .ne 13, 3) := by decide +kernel
theorem dX11_revoke_35 : decode cX11_revoke 35 = .ok (.new 134, 3) := by decide +kernel
theorem dX11_revoke_38 : decode cX11_revoke 38 = .ok (.dup, 1) := by decide +kernel
theorem dX11_revoke_39 : decode cX11_revoke 39 = .ok (.ldc 149, 2) := by decide +kernel
theorem dX11_revoke_41 : decode cX11_revoke 41 = .ok (.invokespecial 138, 3) := by decide +kernel
theorem dX11_revoke_44 : decode cX11_revoke 44 = .ok (.athrow, 1) := by decide +kernel
theorem dX11_revoke_45 : decode cX11_revoke 45 = .ok (.aload_n 0, 1) := by decide +kernel
theorem dX11_revoke_46 : decode cX11_revoke 46 = .ok (.invokevirtual 151, 3) := by decide +kernel
theorem dX11_revoke_49 : decode cX11_revoke 49 = .ok (.aload_n 0, 1) := by decide +kernel
theorem dX11_revoke_50 : decode cX11_revoke 50 = .ok (.getfield 19, 3) := by decide +kernel
theorem dX11_revoke_53 : decode cX11_revoke 53 = .ok (.iload_n 1, 1) := by decide +kernel
theorem dX11_revoke_54 : decode cX11_revoke 54 = .ok (.invokevirtual 154, 3) := by decide +kernel
theorem dX11_revoke_57 : decode cX11_revoke 57 = .ok (.aload_n 0, 1) := by decide +kernel
theorem dX11_revoke_58 : decode cX11_revoke 58 = .ok (.getfield 19, 3) := by decide +kernel
theorem dX11_revoke_61 : decode cX11_revoke 61 = .ok (.aload 4, 2) := by decide +kernel
theorem dX11_revoke_63 : decode cX11_revoke 63 = .ok (.invokevirtual 157, 3) := by decide +kernel
theorem dX11_revoke_66 : decode cX11_revoke 66 = .ok (.ifCond .eq 15, 3) := by decide +kernel
theorem dX11_revoke_69 : decode cX11_revoke 69 = .ok (.aload_n 0, 1) := by decide +kernel
theorem dX11_revoke_70 : decode cX11_revoke 70 = .ok (.getfield 19, 3) := by decide +kernel
theorem dX11_revoke_73 : decode cX11_revoke 73 = .ok (.aload 4, 2) := by decide +kernel
theorem dX11_revoke_75 : decode cX11_revoke 75 = .ok (.invokevirtual 161, 3) := by decide +kernel
theorem dX11_revoke_78 : decode cX11_revoke 78 = .ok (.ifCond .eq 13, 3) := by decide +kernel
theorem dX11_revoke_81 : decode cX11_revoke 81 = .ok (.new 70, 3) := by decide +kernel
theorem dX11_revoke_84 : decode cX11_revoke 84 = .ok (.dup, 1) := by decide +kernel
theorem dX11_revoke_85 : decode cX11_revoke 85 = .ok (.ldc 164, 2) := by decide +kernel
theorem dX11_revoke_87 : decode cX11_revoke 87 = .ok (.invokespecial 74, 3) := by decide +kernel
theorem dX11_revoke_90 : decode cX11_revoke 90 = .ok (.athrow, 1) := by decide +kernel
theorem dX11_revoke_91 : decode cX11_revoke 91 = .ok (.aload_n 0, 1) := by decide +kernel
theorem dX11_revoke_92 : decode cX11_revoke 92 = .ok (.getfield 19, 3) := by decide +kernel
theorem dX11_revoke_95 : decode cX11_revoke 95 = .ok (.new 166, 3) := by decide +kernel
theorem dX11_revoke_98 : decode cX11_revoke 98 = .ok (.dup, 1) := by decide +kernel
theorem dX11_revoke_99 : decode cX11_revoke 99 = .ok (.aload 4, 2) := by decide +kernel
theorem dX11_revoke_101 : decode cX11_revoke 101 = .ok (.invokespecial 168, 3) := by decide +kernel
theorem dX11_revoke_104 : decode cX11_revoke 104 = .ok (.iload_n 1, 1) := by decide +kernel
theorem dX11_revoke_105 : decode cX11_revoke 105 = .ok (.aload_n 0, 1) := by decide +kernel
theorem dX11_revoke_106 : decode cX11_revoke 106 = .ok (.getfield 42, 3) := by decide +kernel
theorem dX11_revoke_109 : decode cX11_revoke 109 = .ok (.invokevirtual 171, 3) := by decide +kernel
theorem dX11_revoke_112 : decode cX11_revoke 112 = .ok (.ireturn, 1) := by decide +kernel
theorem dX11_depute_0 : decode cX11_depute 0 = .ok (.iload_n 1, 1) := by decide +kernel
theorem dX11_depute_1 : decode cX11_depute 1 = .ok (.invokestatic 99, 3) := by decide +kernel
theorem dX11_depute_4 : decode cX11_depute 4 = .ok (.iload_n 2, 1) := by decide +kernel
theorem dX11_depute_5 : decode cX11_depute 5 = .ok (.iconst 0, 1) := by decide +kernel
theorem dX11_depute_6 : decode cX11_depute 6 = .ok (.bipush 100, 2) := by decide +kernel
theorem dX11_depute_8 : decode cX11_depute 8 = .ok (.invokestatic 86, 3) := by decide +kernel
theorem dX11_depute_11 : decode cX11_depute 11 = .ok (.iload_n 3, 1) := by decide +kernel
theorem dX11_depute_12 : decode cX11_depute 12 = .ok (.iconst 0, 1) := by decide +kernel
theorem dX11_depute_13 : decode cX11_depute 13 = .ok (.bipush 100, 2) := by decide +kernel
theorem dX11_depute_15 : decode cX11_depute 15 = .ok (.invokestatic 86, 3) := by decide +kernel
theorem dX11_depute_18 : decode cX11_depute 18 = .ok (.aload_n 0, 1) := by decide +kernel
theorem dX11_depute_19 : decode cX11_depute 19 = .ok (.invokevirtual 151, 3) := by decide +kernel
theorem dX11_depute_22 : decode cX11_depute 22 = .ok (.aload_n 0, 1) := by decide +kernel
theorem dX11_depute_23 : decode cX11_depute 23 = .ok (.getfield 42, 3) := by decide +kernel
theorem dX11_depute_26 : decode cX11_depute 26 = .ok (.iload_n 2, 1) := by decide +kernel
theorem dX11_depute_27 : decode cX11_depute 27 = .ok (.iadd, 1) := by decide +kernel
theorem dX11_depute_28 : decode cX11_depute 28 = .ok (.istore 4, 2) := by decide +kernel
theorem dX11_depute_30 : decode cX11_depute 30 = .ok (.iload 4, 2) := by decide +kernel
theorem dX11_depute_32 : decode cX11_depute 32 = .ok (.iload_n 3, 1) := by decide +kernel
theorem dX11_depute_33 : decode cX11_depute 33 = .ok (.iadd, 1) := by decide +kernel
theorem dX11_depute_34 : decode cX11_depute 34 = .ok (.istore 5, 2) := by decide +kernel
theorem dX11_depute_36 : decode cX11_depute 36 = .ok (.aload_n 0, 1) := by decide +kernel
theorem dX11_depute_37 : decode cX11_depute 37 = .ok (.getfield 19, 3) := by decide +kernel
theorem dX11_depute_40 : decode cX11_depute 40 = .ok (.invokevirtual 175, 3) := by decide +kernel
theorem dX11_depute_43 : decode cX11_depute 43 = .ok (.aload_n 0, 1) := by decide +kernel
theorem dX11_depute_44 : decode cX11_depute 44 = .ok (.getfield 19, 3) := by decide +kernel
theorem dX11_depute_47 : decode cX11_depute 47 = .ok (.iload_n 1, 1) := by decide +kernel
theorem dX11_depute_48 : decode cX11_depute 48 = .ok (.iload 4, 2) := by decide +kernel
theorem dX11_depute_50 : decode cX11_depute 50 = .ok (.iload 5, 2) := by decide +kernel
theorem dX11_depute_52 : decode cX11_depute 52 = .ok (.invokevirtual 178, 3) := by decide +kernel
theorem dX11_depute_55 : decode cX11_depute 55 = .ok (.ifCond .eq 13, 3) := by decide +kernel
theorem dX11_depute_58 : decode cX11_depute 58 = .ok (.new 70, 3) := by decide +kernel
theorem dX11_depute_61 : decode cX11_depute 61 = .ok (.dup, 1) := by decide +kernel
theorem dX11_depute_62 : decode cX11_depute 62 = .ok (.ldc 182, 2) := by decide +kernel
theorem dX11_depute_64 : decode cX11_depute 64 = .ok (.invokespecial 74, 3) := by decide +kernel
theorem dX11_depute_67 : decode cX11_depute 67 = .ok (.athrow, 1) := by decide +kernel
theorem dX11_depute_68 : decode cX11_depute 68 = .ok (.aload_n 0, 1) := by decide +kernel
theorem dX11_depute_69 : decode cX11_depute 69 = .ok (.getfield 19, 3) := by decide +kernel
theorem dX11_depute_72 : decode cX11_depute 72 = .ok (.new 184, 3) := by decide +kernel
theorem dX11_depute_75 : decode cX11_depute 75 = .ok (.dup, 1) := by decide +kernel
theorem dX11_depute_76 : decode cX11_depute 76 = .ok (.iload_n 1, 1) := by decide +kernel
theorem dX11_depute_77 : decode cX11_depute 77 = .ok (.iload 4, 2) := by decide +kernel
theorem dX11_depute_79 : decode cX11_depute 79 = .ok (.iload 5, 2) := by decide +kernel
theorem dX11_depute_81 : decode cX11_depute 81 = .ok (.invokespecial 186, 3) := by decide +kernel
theorem dX11_depute_84 : decode cX11_depute 84 = .ok (.iconst 0, 1) := by decide +kernel
theorem dX11_depute_85 : decode cX11_depute 85 = .ok (.aload_n 0, 1) := by decide +kernel
theorem dX11_depute_86 : decode cX11_depute 86 = .ok (.getfield 42, 3) := by decide +kernel
theorem dX11_depute_89 : decode cX11_depute 89 = .ok (.invokevirtual 171, 3) := by decide +kernel
theorem dX11_depute_92 : decode cX11_depute 92 = .ok (.ireturn, 1) := by decide +kernel
theorem dX11_prepare_0 : decode cX11_prepare 0 = .ok (.iload_n 1, 1) := by decide +kernel
theorem dX11_prepare_1 : decode cX11_prepare 1 = .ok (.iconst 0, 1) := by decide +kernel
theorem dX11_prepare_2 : decode cX11_prepare 2 = .ok (.iconst 1, 1) := by decide +kernel
theorem dX11_prepare_3 : decode cX11_prepare 3 = .ok (.invokestatic 86, 3) := by decide +kernel
theorem dX11_prepare_6 : decode cX11_prepare 6 = .ok (.iload_n 2, 1) := by decide +kernel
theorem dX11_prepare_7 : decode cX11_prepare 7 = .ok (.iconst 0, 1) := by decide +kernel
theorem dX11_prepare_8 : decode cX11_prepare 8 = .ok (.iconst 5, 1) := by decide +kernel
theorem dX11_prepare_9 : decode cX11_prepare 9 = .ok (.invokestatic 86, 3) := by decide +kernel
theorem dX11_prepare_12 : decode cX11_prepare 12 = .ok (.aload_n 0, 1) := by decide +kernel
theorem dX11_prepare_13 : decode cX11_prepare 13 = .ok (.iload_n 1, 1) := by decide +kernel
theorem dX11_prepare_14 : decode cX11_prepare 14 = .ok (.putfield 56, 3) := by decide +kernel
theorem dX11_prepare_17 : decode cX11_prepare 17 = .ok (.aload_n 0, 1) := by decide +kernel
theorem dX11_prepare_18 : decode cX11_prepare 18 = .ok (.iload_n 2, 1) := by decide +kernel
theorem dX11_prepare_19 : decode cX11_prepare 19 = .ok (.putfield 59, 3) := by decide +kernel
theorem dX11_prepare_22 : decode cX11_prepare 22 = .ok (.return_, 1) := by decide +kernel
theorem dX11_act_0 : decode cX11_act 0 = .ok (.iload_n 1, 1) := by decide +kernel
theorem dX11_act_1 : decode cX11_act 1 = .ok (.invokestatic 99, 3) := by decide +kernel
theorem dX11_act_4 : decode cX11_act 4 = .ok (.iload_n 2, 1) := by decide +kernel
theorem dX11_act_5 : decode cX11_act 5 = .ok (.invokestatic 105, 3) := by decide +kernel
theorem dX11_act_8 : decode cX11_act 8 = .ok (.aload_n 0, 1) := by decide +kernel
theorem dX11_act_9 : decode cX11_act 9 = .ok (.iload_n 3, 1) := by decide +kernel
theorem dX11_act_10 : decode cX11_act 10 = .ok (.invokevirtual 118, 3) := by decide +kernel
theorem dX11_act_13 : decode cX11_act 13 = .ok (.iload 4, 2) := by decide +kernel
theorem dX11_act_15 : decode cX11_act 15 = .ok (.iconst 1, 1) := by decide +kernel
theorem dX11_act_16 : decode cX11_act 16 = .ok (.sipush 10000, 3) := by decide +kernel
theorem dX11_act_19 : decode cX11_act 19 = .ok (.invokestatic 86, 3) := by decide +kernel
theorem dX11_act_22 : decode cX11_act 22 = .ok (.aload_n 0, 1) := by decide +kernel
theorem dX11_act_23 : decode cX11_act 23 = .ok (.invokevirtual 151, 3) := by decide +kernel
theorem dX11_act_26 : decode cX11_act 26 = .ok (.aload_n 0, 1) := by decide +kernel
theorem dX11_act_27 : decode cX11_act 27 = .ok (.getfield 26, 3) := by decide +kernel
theorem dX11_act_30 : decode cX11_act 30 = .ok (.iload_n 3, 1) := by decide +kernel
theorem dX11_act_31 : decode cX11_act 31 = .ok (.invokevirtual 121, 3) := by decide +kernel
theorem dX11_act_34 : decode cX11_act 34 = .ok (.checkcast 125, 3) := by decide +kernel
theorem dX11_act_37 : decode cX11_act 37 = .ok (.astore 5, 2) := by decide +kernel
theorem dX11_act_39 : decode cX11_act 39 = .ok (.aload_n 0, 1) := by decide +kernel
theorem dX11_act_40 : decode cX11_act 40 = .ok (.iload_n 1, 1) := by decide +kernel
theorem dX11_act_41 : decode cX11_act 41 = .ok (.iload_n 2, 1) := by decide +kernel
theorem dX11_act_42 : decode cX11_act 42 = .ok (.iload 4, 2) := by decide +kernel
theorem dX11_act_44 : decode cX11_act 44 = .ok (.invokevirtual 188, 3) := by decide +kernel
theorem dX11_act_47 : decode cX11_act 47 = .ok (.astore 6, 2) := by decide +kernel
theorem dX11_act_49 : decode cX11_act 49 = .ok (.aload_n 0, 1) := by decide +kernel
theorem dX11_act_50 : decode cX11_act 50 = .ok (.getfield 19, 3) := by decide +kernel
theorem dX11_act_53 : decode cX11_act 53 = .ok (.iload_n 1, 1) := by decide +kernel
theorem dX11_act_54 : decode cX11_act 54 = .ok (.invokevirtual 154, 3) := by decide +kernel
theorem dX11_act_57 : decode cX11_act 57 = .ok (.aload_n 0, 1) := by decide +kernel
theorem dX11_act_58 : decode cX11_act 58 = .ok (.getfield 19, 3) := by decide +kernel
theorem dX11_act_61 : decode cX11_act 61 = .ok (.aload 5, 2) := by decide +kernel
theorem dX11_act_63 : decode cX11_act 63 = .ok (.aload 6, 2) := by decide +kernel
theorem dX11_act_65 : decode cX11_act 65 = .ok (.invokevirtual 192, 3) := by decide +kernel
theorem dX11_act_68 : decode cX11_act 68 = .ok (.ifCond .eq 13, 3) := by decide +kernel
theorem dX11_act_71 : decode cX11_act 71 = .ok (.new 70, 3) := by decide +kernel
theorem dX11_act_74 : decode cX11_act 74 = .ok (.dup, 1) := by decide +kernel
theorem dX11_act_75 : decode cX11_act 75 = .ok (.ldc 196, 2) := by decide +kernel
theorem dX11_act_77 : decode cX11_act 77 = .ok (.invokespecial 74, 3) := by decide +kernel
theorem dX11_act_80 : decode cX11_act 80 = .ok (.athrow, 1) := by decide +kernel
theorem dX11_act_81 : decode cX11_act 81 = .ok (.new 198, 3) := by decide +kernel
theorem dX11_act_84 : decode cX11_act 84 = .ok (.dup, 1) := by decide +kernel
theorem dX11_act_85 : decode cX11_act 85 = .ok (.aload 5, 2) := by decide +kernel
theorem dX11_act_87 : decode cX11_act 87 = .ok (.aload 6, 2) := by decide +kernel
theorem dX11_act_89 : decode cX11_act 89 = .ok (.invokespecial 200, 3) := by decide +kernel
theorem dX11_act_92 : decode cX11_act 92 = .ok (.astore 7, 2) := by decide +kernel
theorem dX11_act_94 : decode cX11_act 94 = .ok (.aload_n 0, 1) := by decide +kernel
theorem dX11_act_95 : decode cX11_act 95 = .ok (.getfield 19, 3) := by decide +kernel
theorem dX11_act_98 : decode cX11_act 98 = .ok (.aload 7, 2) := by decide +kernel

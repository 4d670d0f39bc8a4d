theorem dX0_init_0 : decode cX0_init 0 = .ok (.aload_n 0, 1) := by decide +kernel
theorem dX0_init_1 : decode cX0_init 1 = .ok (.invokespecial 1, 3) := by decide +kernel
theorem dX0_init_4 : decode cX0_init 4 = .ok (.return_, 1) := by decide +kernel
theorem dX0_drifts_0 : decode cX0_drifts 0 = .ok (.iconst 2, 1) := by decide +kernel
theorem dX0_drifts_1 : decode cX0_drifts 1 = .ok (.aload_n 0, 1) := by decide +kernel
theorem dX0_drifts_2 : decode cX0_drifts 2 = .ok (.iload_n 1, 1) := by decide +kernel
theorem dX0_drifts_3 : decode cX0_drifts 3 = .ok (.iload_n 2, 1) := by decide +kernel
theorem dX0_drifts_4 : decode cX0_drifts 4 = .ok (.invokespecial 7, 3) := by decide +kernel
theorem dX0_drifts_7 : decode cX0_drifts 7 = .ok (.imul, 1) := by decide +kernel
theorem dX0_drifts_8 : decode cX0_drifts 8 = .ok (.ireturn, 1) := by decide +kernel
theorem dX0_price_0 : decode cX0_price 0 = .ok (.iconst 2, 1) := by decide +kernel
theorem dX0_price_1 : decode cX0_price 1 = .ok (.aload_n 0, 1) := by decide +kernel
theorem dX0_price_2 : decode cX0_price 2 = .ok (.iload_n 1, 1) := by decide +kernel
theorem dX0_price_3 : decode cX0_price 3 = .ok (.invokespecial 11, 3) := by decide +kernel
theorem dX0_price_6 : decode cX0_price 6 = .ok (.imul, 1) := by decide +kernel
theorem dX0_price_7 : decode cX0_price 7 = .ok (.ireturn, 1) := by decide +kernel
theorem dX0_hums_0 : decode cX0_hums 0 = .ok (.aload_n 1, 1) := by decide +kernel
theorem dX0_hums_1 : decode cX0_hums 1 = .ok (.bipush 20, 2) := by decide +kernel
theorem dX0_hums_3 : decode cX0_hums 3 = .ok (.invokevirtual 15, 3) := by decide +kernel
theorem dX0_hums_6 : decode cX0_hums 6 = .ok (.aload_n 0, 1) := by decide +kernel
theorem dX0_hums_7 : decode cX0_hums 7 = .ok (.aload_n 1, 1) := by decide +kernel
theorem dX0_hums_8 : decode cX0_hums 8 = .ok (.iload_n 2, 1) := by decide +kernel
theorem dX0_hums_9 : decode cX0_hums 9 = .ok (.invokespecial 21, 3) := by decide +kernel
theorem dX0_hums_12 : decode cX0_hums 12 = .ok (.bipush 7, 2) := by decide +kernel
theorem dX0_hums_14 : decode cX0_hums 14 = .ok (.iadd, 1) := by decide +kernel
theorem dX0_hums_15 : decode cX0_hums 15 = .ok (.ireturn, 1) := by decide +kernel
theorem dX1_init_0 : decode cX1_init 0 = .ok (.aload_n 0, 1) := by decide +kernel
theorem dX1_init_1 : decode cX1_init 1 = .ok (.invokespecial 1, 3) := by decide +kernel
theorem dX1_init_4 : decode cX1_init 4 = .ok (.return_, 1) := by decide +kernel
theorem dX1_drifts_0 : decode cX1_drifts 0 = .ok (.iconst 0, 1) := by decide +kernel
theorem dX1_drifts_1 : decode cX1_drifts 1 = .ok (.ireturn, 1) := by decide +kernel
theorem dX1_price_0 : decode cX1_price 0 = .ok (.iconst 1, 1) := by decide +kernel
theorem dX1_price_1 : decode cX1_price 1 = .ok (.ireturn, 1) := by decide +kernel
theorem dX1_bursts_0 : decode cX1_bursts 0 = .ok (.iload_n 1, 1) := by decide +kernel
theorem dX1_bursts_1 : decode cX1_bursts 1 = .ok (.bipush 8, 2) := by decide +kernel
theorem dX1_bursts_3 : decode cX1_bursts 3 = .ok (.if_icmp .lt 7, 3) := by decide +kernel
theorem dX1_bursts_6 : decode cX1_bursts 6 = .ok (.iconst 1, 1) := by decide +kernel
theorem dX1_bursts_7 : decode cX1_bursts 7 = .ok (.goto 4, 3) := by decide +kernel
theorem dX1_bursts_10 : decode cX1_bursts 10 = .ok (.iconst 0, 1) := by decide +kernel
theorem dX1_bursts_11 : decode cX1_bursts 11 = .ok (.ireturn, 1) := by decide +kernel
theorem dX1_parts_0 : decode cX1_parts 0 = .ok (.aload_n 1, 1) := by decide +kernel
theorem dX1_parts_1 : decode cX1_parts 1 = .ok (.bipush 40, 2) := by decide +kernel
theorem dX1_parts_3 : decode cX1_parts 3 = .ok (.invokevirtual 7, 3) := by decide +kernel
theorem dX1_parts_6 : decode cX1_parts 6 = .ok (.aload_n 0, 1) := by decide +kernel
theorem dX1_parts_7 : decode cX1_parts 7 = .ok (.aload_n 1, 1) := by decide +kernel
theorem dX1_parts_8 : decode cX1_parts 8 = .ok (.iload_n 2, 1) := by decide +kernel
theorem dX1_parts_9 : decode cX1_parts 9 = .ok (.invokespecial 13, 3) := by decide +kernel
theorem dX1_parts_12 : decode cX1_parts 12 = .ok (.aload_n 1, 1) := by decide +kernel
theorem dX1_parts_13 : decode cX1_parts 13 = .ok (.getfield 17, 3) := by decide +kernel
theorem dX1_parts_16 : decode cX1_parts 16 = .ok (.imul, 1) := by decide +kernel
theorem dX1_parts_17 : decode cX1_parts 17 = .ok (.ireturn, 1) := by decide +kernel
theorem dX2_init_0 : decode cX2_init 0 = .ok (.aload_n 0, 1) := by decide +kernel
theorem dX2_init_1 : decode cX2_init 1 = .ok (.invokespecial 1, 3) := by decide +kernel
theorem dX2_init_4 : decode cX2_init 4 = .ok (.return_, 1) := by decide +kernel
theorem dX2_drifts_0 : decode cX2_drifts 0 = .ok (.aload_n 0, 1) := by decide +kernel
theorem dX2_drifts_1 : decode cX2_drifts 1 = .ok (.iload_n 1, 1) := by decide +kernel
theorem dX2_drifts_2 : decode cX2_drifts 2 = .ok (.iload_n 2, 1) := by decide +kernel
theorem dX2_drifts_3 : decode cX2_drifts 3 = .ok (.invokespecial 7, 3) := by decide +kernel
theorem dX2_drifts_6 : decode cX2_drifts 6 = .ok (.iconst 2, 1) := by decide +kernel
theorem dX2_drifts_7 : decode cX2_drifts 7 = .ok (.iadd, 1) := by decide +kernel
theorem dX2_drifts_8 : decode cX2_drifts 8 = .ok (.ireturn, 1) := by decide +kernel
theorem dX2_price_0 : decode cX2_price 0 = .ok (.aload_n 0, 1) := by decide +kernel
theorem dX2_price_1 : decode cX2_price 1 = .ok (.iload_n 1, 1) := by decide +kernel
theorem dX2_price_2 : decode cX2_price 2 = .ok (.invokespecial 11, 3) := by decide +kernel
theorem dX2_price_5 : decode cX2_price 5 = .ok (.iconst 1, 1) := by decide +kernel
theorem dX2_price_6 : decode cX2_price 6 = .ok (.isub, 1) := by decide +kernel
theorem dX2_price_7 : decode cX2_price 7 = .ok (.ireturn, 1) := by decide +kernel
theorem dX2_bursts_0 : decode cX2_bursts 0 = .ok (.iconst 0, 1) := by decide +kernel
theorem dX2_bursts_1 : decode cX2_bursts 1 = .ok (.ireturn, 1) := by decide +kernel
theorem dX2_calls_0 : decode cX2_calls 0 = .ok (.aload_n 1, 1) := by decide +kernel
theorem dX2_calls_1 : decode cX2_calls 1 = .ok (.bipush 60, 2) := by decide +kernel
theorem dX2_calls_3 : decode cX2_calls 3 = .ok (.invokevirtual 15, 3) := by decide +kernel
theorem dX2_calls_6 : decode cX2_calls 6 = .ok (.aload_n 0, 1) := by decide +kernel
theorem dX2_calls_7 : decode cX2_calls 7 = .ok (.aload_n 1, 1) := by decide +kernel
theorem dX2_calls_8 : decode cX2_calls 8 = .ok (.iload_n 2, 1) := by decide +kernel
theorem dX2_calls_9 : decode cX2_calls 9 = .ok (.invokespecial 21, 3) := by decide +kernel
theorem dX2_calls_12 : decode cX2_calls 12 = .ok (.bipush 9, 2) := by decide +kernel
theorem dX2_calls_14 : decode cX2_calls 14 = .ok (.ixor, 1) := by decide +kernel
theorem dX2_calls_15 : decode cX2_calls 15 = .ok (.ireturn, 1) := by decide +kernel
theorem dX2_parts_0 : decode cX2_parts 0 = .ok (.aload_n 1, 1) := by decide +kernel
theorem dX2_parts_1 : decode cX2_parts 1 = .ok (.bipush 61, 2) := by decide +kernel
theorem dX2_parts_3 : decode cX2_parts 3 = .ok (.invokevirtual 15, 3) := by decide +kernel
theorem dX2_parts_6 : decode cX2_parts 6 = .ok (.aload_n 0, 1) := by decide +kernel
theorem dX2_parts_7 : decode cX2_parts 7 = .ok (.aload_n 1, 1) := by decide +kernel
theorem dX2_parts_8 : decode cX2_parts 8 = .ok (.iload_n 2, 1) := by decide +kernel
theorem dX2_parts_9 : decode cX2_parts 9 = .ok (.invokespecial 25, 3) := by decide +kernel
theorem dX2_parts_12 : decode cX2_parts 12 = .ok (.aload_n 0, 1) := by decide +kernel
theorem dX2_parts_13 : decode cX2_parts 13 = .ok (.aload_n 1, 1) := by decide +kernel
theorem dX2_parts_14 : decode cX2_parts 14 = .ok (.aload_n 1, 1) := by decide +kernel
theorem dX2_parts_15 : decode cX2_parts 15 = .ok (.getfield 28, 3) := by decide +kernel
theorem dX2_parts_18 : decode cX2_parts 18 = .ok (.invokevirtual 32, 3) := by decide +kernel
theorem dX2_parts_21 : decode cX2_parts 21 = .ok (.iadd, 1) := by decide +kernel
theorem dX2_parts_22 : decode cX2_parts 22 = .ok (.ireturn, 1) := by decide +kernel
theorem dX3_init_0 : decode cX3_init 0 = .ok (.aload_n 0, 1) := by decide +kernel
theorem dX3_init_1 : decode cX3_init 1 = .ok (.invokespecial 5, 3) := by decide +kernel
theorem dX3_init_4 : decode cX3_init 4 = .ok (.aload_n 0, 1) := by decide +kernel
theorem dX3_init_5 : decode cX3_init 5 = .ok (.bipush 9, 2) := by decide +kernel
theorem dX3_init_7 : decode cX3_init 7 = .ok (.newarray .int, 2) := by decide +kernel
theorem dX3_init_9 : decode cX3_init 9 = .ok (.putfield 13, 3) := by decide +kernel
theorem dX3_init_12 : decode cX3_init 12 = .ok (.aload_n 0, 1) := by decide +kernel
theorem dX3_init_13 : decode cX3_init 13 = .ok (.iconst 4, 1) := by decide +kernel
theorem dX3_init_14 : decode cX3_init 14 = .ok (.bipush 9, 2) := by decide +kernel
theorem dX3_init_16 : decode cX3_init 16 = .ok (.multianewarray 17 2, 4) := by decide +kernel
theorem dX3_init_20 : decode cX3_init 20 = .ok (.putfield 19, 3) := by decide +kernel
theorem dX3_init_23 : decode cX3_init 23 = .ok (.aload_n 0, 1) := by decide +kernel
theorem dX3_init_24 : decode cX3_init 24 = .ok (.iconst 4, 1) := by decide +kernel
theorem dX3_init_25 : decode cX3_init 25 = .ok (.bipush 9, 2) := by decide +kernel
theorem dX3_init_27 : decode cX3_init 27 = .ok (.multianewarray 17 2, 4) := by decide +kernel
theorem dX3_init_31 : decode cX3_init 31 = .ok (.putfield 22, 3) := by decide +kernel
theorem dX3_init_34 : decode cX3_init 34 = .ok (.aload_n 0, 1) := by decide +kernel
theorem dX3_init_35 : decode cX3_init 35 = .ok (.iconst 4, 1) := by decide +kernel
theorem dX3_init_36 : decode cX3_init 36 = .ok (.newarray .int, 2) := by decide +kernel
theorem dX3_init_38 : decode cX3_init 38 = .ok (.putfield 25, 3) := by decide +kernel
theorem dX3_init_41 : decode cX3_init 41 = .ok (.aload_n 0, 1) := by decide +kernel
theorem dX3_init_42 : decode cX3_init 42 = .ok (.iconst 4, 1) := by decide +kernel
theorem dX3_init_43 : decode cX3_init 43 = .ok (.newarray .int, 2) := by decide +kernel
theorem dX3_init_45 : decode cX3_init 45 = .ok (.putfield 28, 3) := by decide +kernel
theorem dX3_init_48 : decode cX3_init 48 = .ok (.aload_n 0, 1) := by decide +kernel
theorem dX3_init_49 : decode cX3_init 49 = .ok (.bipush 6, 2) := by decide +kernel
theorem dX3_init_51 : decode cX3_init 51 = .ok (.newarray .int, 2) := by decide +kernel
theorem dX3_init_53 : decode cX3_init 53 = .ok (.putfield 31, 3) := by decide +kernel
theorem dX3_init_56 : decode cX3_init 56 = .ok (.aload_n 0, 1) := by decide +kernel
theorem dX3_init_57 : decode cX3_init 57 = .ok (.iconst 4, 1) := by decide +kernel
theorem dX3_init_58 : decode cX3_init 58 = .ok (.iconst 3, 1) := by decide +kernel
theorem dX3_init_59 : decode cX3_init 59 = .ok (.multianewarray 17 2, 4) := by decide +kernel
theorem dX3_init_63 : decode cX3_init 63 = .ok (.putfield 34, 3) := by decide +kernel
theorem dX3_init_66 : decode cX3_init 66 = .ok (.aload_n 0, 1) := by decide +kernel
theorem dX3_init_67 : decode cX3_init 67 = .ok (.aload_n 1, 1) := by decide +kernel
theorem dX3_init_68 : decode cX3_init 68 = .ok (.putfield 37, 3) := by decide +kernel
theorem dX3_init_71 : decode cX3_init 71 = .ok (.return_, 1) := by decide +kernel
theorem dX3_remember_0 : decode cX3_remember 0 = .ok (.aload_n 0, 1) := by decide +kernel
theorem dX3_remember_1 : decode cX3_remember 1 = .ok (.getfield 37, 3) := by decide +kernel
theorem dX3_remember_4 : decode cX3_remember 4 = .ok (.aload_n 0, 1) := by decide +kernel
theorem dX3_remember_5 : decode cX3_remember 5 = .ok (.getfield 13, 3) := by decide +kernel
theorem dX3_remember_8 : decode cX3_remember 8 = .ok (.invokevirtual 41, 3) := by decide +kernel
theorem dX3_remember_11 : decode cX3_remember 11 = .ok (.return_, 1) := by decide +kernel
theorem dX3_goBack_0 : decode cX3_goBack 0 = .ok (.aload_n 0, 1) := by decide +kernel
theorem dX3_goBack_1 : decode cX3_goBack 1 = .ok (.getfield 37, 3) := by decide +kernel
theorem dX3_goBack_4 : decode cX3_goBack 4 = .ok (.aload_n 0, 1) := by decide +kernel
theorem dX3_goBack_5 : decode cX3_goBack 5 = .ok (.getfield 13, 3) := by decide +kernel
theorem dX3_goBack_8 : decode cX3_goBack 8 = .ok (.invokevirtual 45, 3) := by decide +kernel
theorem dX3_goBack_11 : decode cX3_goBack 11 = .ok (.return_, 1) := by decide +kernel
theorem dX3_worthOfRest_0 : decode cX3_worthOfRest 0 = .ok (.aload_n 0, 1) := by decide +kernel
theorem dX3_worthOfRest_1 : decode cX3_worthOfRest 1 = .ok (.invokevirtual 48, 3) := by decide +kernel
theorem dX3_worthOfRest_4 : decode cX3_worthOfRest 4 = .ok (.iconst 0, 1) := by decide +kernel
theorem dX3_worthOfRest_5 : decode cX3_worthOfRest 5 = .ok (.istore_n 2, 1) := by decide +kernel
theorem dX3_worthOfRest_6 : decode cX3_worthOfRest 6 = .ok (.iconst 0, 1) := by decide +kernel
theorem dX3_worthOfRest_7 : decode cX3_worthOfRest 7 = .ok (.istore_n 3, 1) := by decide +kernel
theorem dX3_worthOfRest_8 : decode cX3_worthOfRest 8 = .ok (.iload_n 3, 1) := by decide +kernel
theorem dX3_worthOfRest_9 : decode cX3_worthOfRest 9 = .ok (.iload_n 1, 1) := by decide +kernel
theorem dX3_worthOfRest_10 : decode cX3_worthOfRest 10 = .ok (.if_icmp .ge 36, 3) := by decide +kernel
theorem dX3_worthOfRest_13 : decode cX3_worthOfRest 13 = .ok (.aload_n 0, 1) := by decide +kernel
theorem dX3_worthOfRest_14 : decode cX3_worthOfRest 14 = .ok (.getfield 37, 3) := by decide +kernel
theorem dX3_worthOfRest_17 : decode cX3_worthOfRest 17 = .ok (.invokevirtual 51, 3) := by decide +kernel
theorem dX3_worthOfRest_20 : decode cX3_worthOfRest 20 = .ok (.ifCond .ne 26, 3) := by decide +kernel
theorem dX3_worthOfRest_23 : decode cX3_worthOfRest 23 = .ok (.iload_n 2, 1) := by decide +kernel
theorem dX3_worthOfRest_24 : decode cX3_worthOfRest 24 = .ok (.aload_n 0, 1) := by decide +kernel
theorem dX3_worthOfRest_25 : decode cX3_worthOfRest 25 = .ok (.getfield 37, 3) := by decide +kernel
theorem dX3_worthOfRest_28 : decode cX3_worthOfRest 28 = .ok (.aload_n 0, 1) := by decide +kernel
theorem dX3_worthOfRest_29 : decode cX3_worthOfRest 29 = .ok (.getfield 37, 3) := by decide +kernel
theorem dX3_worthOfRest_32 : decode cX3_worthOfRest 32 = .ok (.invokevirtual 55, 3) := by decide +kernel
theorem dX3_worthOfRest_35 : decode cX3_worthOfRest 35 = .ok (.invokevirtual 59, 3) := by decide +kernel
theorem dX3_worthOfRest_38 : decode cX3_worthOfRest 38 = .ok (.iadd, 1) := by decide +kernel
theorem dX3_worthOfRest_39 : decode cX3_worthOfRest 39 = .ok (.istore_n 2, 1) := by decide +kernel
theorem dX3_worthOfRest_40 : decode cX3_worthOfRest 40 = .ok (.iinc 3 1, 3) := by decide +kernel
theorem dX3_worthOfRest_43 : decode cX3_worthOfRest 43 = .ok (.goto (-35), 3) := by decide +kernel
theorem dX3_worthOfRest_46 : decode cX3_worthOfRest 46 = .ok (.aload_n 0, 1) := by decide +kernel
theorem dX3_worthOfRest_47 : decode cX3_worthOfRest 47 = .ok (.invokevirtual 63, 3) := by decide +kernel
theorem dX3_worthOfRest_50 : decode cX3_worthOfRest 50 = .ok (.iload_n 2, 1) := by decide +kernel
theorem dX3_worthOfRest_51 : decode cX3_worthOfRest 51 = .ok (.ireturn, 1) := by decide +kernel
theorem dX3_turnOfCatch_0 : decode cX3_turnOfCatch 0 = .ok (.aload_n 0, 1) := by decide +kernel
theorem dX3_turnOfCatch_1 : decode cX3_turnOfCatch 1 = .ok (.getfield 37, 3) := by decide +kernel
theorem dX3_turnOfCatch_4 : decode cX3_turnOfCatch 4 = .ok (.iload_n 1, 1) := by decide +kernel
theorem dX3_turnOfCatch_5 : decode cX3_turnOfCatch 5 = .ok (.invokevirtual 66, 3) := by decide +kernel
theorem dX3_turnOfCatch_8 : decode cX3_turnOfCatch 8 = .ok (.ifCond .eq 6, 3) := by decide +kernel
theorem dX3_turnOfCatch_11 : decode cX3_turnOfCatch 11 = .ok (.bipush (-3), 2) := by decide +kernel
theorem dX3_turnOfCatch_13 : decode cX3_turnOfCatch 13 = .ok (.ireturn, 1) := by decide +kernel
theorem dX3_turnOfCatch_14 : decode cX3_turnOfCatch 14 = .ok (.aload_n 0, 1) := by decide +kernel
theorem dX3_turnOfCatch_15 : decode cX3_turnOfCatch 15 = .ok (.invokevirtual 48, 3) := by decide +kernel
theorem dX3_turnOfCatch_18 : decode cX3_turnOfCatch 18 = .ok (.iconst 0, 1) := by decide +kernel
theorem dX3_turnOfCatch_19 : decode cX3_turnOfCatch 19 = .ok (.istore_n 2, 1) := by decide +kernel
theorem dX3_turnOfCatch_20 : decode cX3_turnOfCatch 20 = .ok (.iload_n 2, 1) := by decide +kernel
theorem dX3_turnOfCatch_21 : decode cX3_turnOfCatch 21 = .ok (.bipush 16, 2) := by decide +kernel
theorem dX3_turnOfCatch_23 : decode cX3_turnOfCatch 23 = .ok (.if_icmp .ge 45, 3) := by decide +kernel
theorem dX3_turnOfCatch_26 : decode cX3_turnOfCatch 26 = .ok (.aload_n 0, 1) := by decide +kernel
theorem dX3_turnOfCatch_27 : decode cX3_turnOfCatch 27 = .ok (.getfield 37, 3) := by decide +kernel
theorem dX3_turnOfCatch_30 : decode cX3_turnOfCatch 30 = .ok (.invokevirtual 51, 3) := by decide +kernel
theorem dX3_turnOfCatch_33 : decode cX3_turnOfCatch 33 = .ok (.ifCond .ne 35, 3) := by decide +kernel
theorem dX3_turnOfCatch_36 : decode cX3_turnOfCatch 36 = .ok (.aload_n 0, 1) := by decide +kernel
theorem dX3_turnOfCatch_37 : decode cX3_turnOfCatch 37 = .ok (.getfield 37, 3) := by decide +kernel
theorem dX3_turnOfCatch_40 : decode cX3_turnOfCatch 40 = .ok (.iload_n 1, 1) := by decide +kernel
theorem dX3_turnOfCatch_41 : decode cX3_turnOfCatch 41 = .ok (.invokevirtual 66, 3) := by decide +kernel
theorem dX3_turnOfCatch_44 : decode cX3_turnOfCatch 44 = .ok (.ifCond .ne 24, 3) := by decide +kernel
theorem dX3_turnOfCatch_47 : decode cX3_turnOfCatch 47 = .ok (.aload_n 0, 1) := by decide +kernel
theorem dX3_turnOfCatch_48 : decode cX3_turnOfCatch 48 = .ok (.getfield 37, 3) := by decide +kernel
theorem dX3_turnOfCatch_51 : decode cX3_turnOfCatch 51 = .ok (.aload_n 0, 1) := by decide +kernel
theorem dX3_turnOfCatch_52 : decode cX3_turnOfCatch 52 = .ok (.getfield 37, 3) := by decide +kernel
theorem dX3_turnOfCatch_55 : decode cX3_turnOfCatch 55 = .ok (.invokevirtual 55, 3) := by decide +kernel
theorem dX3_turnOfCatch_58 : decode cX3_turnOfCatch 58 = .ok (.invokevirtual 59, 3) := by decide +kernel
theorem dX3_turnOfCatch_61 : decode cX3_turnOfCatch 61 = .ok (.pop, 1) := by decide +kernel
theorem dX3_turnOfCatch_62 : decode cX3_turnOfCatch 62 = .ok (.iinc 2 1, 3) := by decide +kernel
theorem dX3_turnOfCatch_65 : decode cX3_turnOfCatch 65 = .ok (.goto (-45), 3) := by decide +kernel
theorem dX3_turnOfCatch_68 : decode cX3_turnOfCatch 68 = .ok (.aload_n 0, 1) := by decide +kernel
theorem dX3_turnOfCatch_69 : decode cX3_turnOfCatch 69 = .ok (.getfield 37, 3) := by decide +kernel
theorem dX3_turnOfCatch_72 : decode cX3_turnOfCatch 72 = .ok (.iload_n 1, 1) := by decide +kernel
theorem dX3_turnOfCatch_73 : decode cX3_turnOfCatch 73 = .ok (.invokevirtual 66, 3) := by decide +kernel
theorem dX3_turnOfCatch_76 : decode cX3_turnOfCatch 76 = .ok (.ifCond .eq 15, 3) := by decide +kernel
theorem dX3_turnOfCatch_79 : decode cX3_turnOfCatch 79 = .ok (.aload_n 0, 1) := by decide +kernel
theorem dX3_turnOfCatch_80 : decode cX3_turnOfCatch 80 = .ok (.getfield 37, 3) := by decide +kernel
theorem dX3_turnOfCatch_83 : decode cX3_turnOfCatch 83 = .ok (.getfield 70, 3) := by decide +kernel
theorem dX3_turnOfCatch_86 : decode cX3_turnOfCatch 86 = .ok (.iconst 1, 1) := by decide +kernel
theorem dX3_turnOfCatch_87 : decode cX3_turnOfCatch 87 = .ok (.isub, 1) := by decide +kernel
theorem dX3_turnOfCatch_88 : decode cX3_turnOfCatch 88 = .ok (.goto 5, 3) := by decide +kernel
theorem dX3_turnOfCatch_91 : decode cX3_turnOfCatch 91 = .ok (.bipush (-3), 2) := by decide +kernel
theorem dX3_turnOfCatch_93 : decode cX3_turnOfCatch 93 = .ok (.istore_n 2, 1) := by decide +kernel
theorem dX3_turnOfCatch_94 : decode cX3_turnOfCatch 94 = .ok (.aload_n 0, 1) := by decide +kernel
theorem dX3_turnOfCatch_95 : decode cX3_turnOfCatch 95 = .ok (.invokevirtual 63, 3) := by decide +kernel
theorem dX3_turnOfCatch_98 : decode cX3_turnOfCatch 98 = .ok (.iload_n 2, 1) := by decide +kernel
theorem dX3_turnOfCatch_99 : decode cX3_turnOfCatch 99 = .ok (.ireturn, 1) := by decide +kernel
theorem dX3_bestMesh_0 : decode cX3_bestMesh 0 = .ok (.aload_n 0, 1) := by decide +kernel
theorem dX3_bestMesh_1 : decode cX3_bestMesh 1 = .ok (.getfield 37, 3) := by decide +kernel
theorem dX3_bestMesh_4 : decode cX3_bestMesh 4 = .ok (.getfield 74, 3) := by decide +kernel
theorem dX3_bestMesh_7 : decode cX3_bestMesh 7 = .ok (.istore_n 1, 1) := by decide +kernel
theorem dX3_bestMesh_8 : decode cX3_bestMesh 8 = .ok (.iconst 0, 1) := by decide +kernel
theorem dX3_bestMesh_9 : decode cX3_bestMesh 9 = .ok (.istore_n 2, 1) := by decide +kernel
theorem dX3_bestMesh_10 : decode cX3_bestMesh 10 = .ok (.iconst (-1), 1) := by decide +kernel
theorem dX3_bestMesh_11 : decode cX3_bestMesh 11 = .ok (.istore_n 3, 1) := by decide +kernel
theorem dX3_bestMesh_12 : decode cX3_bestMesh 12 = .ok (.iconst 0, 1) := by decide +kernel
theorem dX3_bestMesh_13 : decode cX3_bestMesh 13 = .ok (.istore 4, 2) := by decide +kernel
theorem dX3_bestMesh_15 : decode cX3_bestMesh 15 = .ok (.iload 4, 2) := by decide +kernel
theorem dX3_bestMesh_17 : decode cX3_bestMesh 17 = .ok (.bipush 9, 2) := by decide +kernel
theorem dX3_bestMesh_19 : decode cX3_bestMesh 19 = .ok (.if_icmp .gt 38, 3) := by decide +kernel
theorem dX3_bestMesh_22 : decode cX3_bestMesh 22 = .ok (.aload_n 0, 1) := by decide +kernel
theorem dX3_bestMesh_23 : decode cX3_bestMesh 23 = .ok (.getfield 37, 3) := by decide +kernel
theorem dX3_bestMesh_26 : decode cX3_bestMesh 26 = .ok (.iload 4, 2) := by decide +kernel
theorem dX3_bestMesh_28 : decode cX3_bestMesh 28 = .ok (.putfield 74, 3) := by decide +kernel
theorem dX3_bestMesh_31 : decode cX3_bestMesh 31 = .ok (.aload_n 0, 1) := by decide +kernel
theorem dX3_bestMesh_32 : decode cX3_bestMesh 32 = .ok (.bipush 16, 2) := by decide +kernel
theorem dX3_bestMesh_34 : decode cX3_bestMesh 34 = .ok (.invokevirtual 77, 3) := by decide +kernel
theorem dX3_bestMesh_37 : decode cX3_bestMesh 37 = .ok (.istore 5, 2) := by decide +kernel
theorem dX3_bestMesh_39 : decode cX3_bestMesh 39 = .ok (.iload 5, 2) := by decide +kernel
theorem dX3_bestMesh_41 : decode cX3_bestMesh 41 = .ok (.iload_n 3, 1) := by decide +kernel
theorem dX3_bestMesh_42 : decode cX3_bestMesh 42 = .ok (.if_icmp .le 9, 3) := by decide +kernel
theorem dX3_bestMesh_45 : decode cX3_bestMesh 45 = .ok (.iload 4, 2) := by decide +kernel
theorem dX3_bestMesh_47 : decode cX3_bestMesh 47 = .ok (.istore_n 2, 1) := by decide +kernel
theorem dX3_bestMesh_48 : decode cX3_bestMesh 48 = .ok (.iload 5, 2) := by decide +kernel
theorem dX3_bestMesh_50 : decode cX3_bestMesh 50 = .ok (.istore_n 3, 1) := by decide +kernel
theorem dX3_bestMesh_51 : decode cX3_bestMesh 51 = .ok (.iinc 4 1, 3) := by decide +kernel
theorem dX3_bestMesh_54 : decode cX3_bestMesh 54 = .ok (.goto (-39), 3) := by decide +kernel
theorem dX3_bestMesh_57 : decode cX3_bestMesh 57 = .ok (.aload_n 0, 1) := by decide +kernel
theorem dX3_bestMesh_58 : decode cX3_bestMesh 58 = .ok (.getfield 37, 3) := by decide +kernel
theorem dX3_bestMesh_61 : decode cX3_bestMesh 61 = .ok (.iload_n 1, 1) := by decide +kernel
theorem dX3_bestMesh_62 : decode cX3_bestMesh 62 = .ok (.putfield 74, 3) := by decide +kernel
theorem dX3_bestMesh_65 : decode cX3_bestMesh 65 = .ok (.iload_n 2, 1) := by decide +kernel
theorem dX3_bestMesh_66 : decode cX3_bestMesh 66 = .ok (.ireturn, 1) := by decide +kernel
theorem dX3_bestPlace_0 : decode cX3_bestPlace 0 = .ok (.aload_n 0, 1) := by decide +kernel
theorem dX3_bestPlace_1 : decode cX3_bestPlace 1 = .ok (.getfield 37, 3) := by decide +kernel
theorem dX3_bestPlace_4 : decode cX3_bestPlace 4 = .ok (.getfield 80, 3) := by decide +kernel
theorem dX3_bestPlace_7 : decode cX3_bestPlace 7 = .ok (.iload_n 1, 1) := by decide +kernel
theorem dX3_bestPlace_8 : decode cX3_bestPlace 8 = .ok (.iaload, 1) := by decide +kernel
theorem dX3_bestPlace_9 : decode cX3_bestPlace 9 = .ok (.istore_n 2, 1) := by decide +kernel
theorem dX3_bestPlace_10 : decode cX3_bestPlace 10 = .ok (.iconst 0, 1) := by decide +kernel
theorem dX3_bestPlace_11 : decode cX3_bestPlace 11 = .ok (.istore_n 3, 1) := by decide +kernel
theorem dX3_bestPlace_12 : decode cX3_bestPlace 12 = .ok (.iconst (-1), 1) := by decide +kernel
theorem dX3_bestPlace_13 : decode cX3_bestPlace 13 = .ok (.istore 4, 2) := by decide +kernel
theorem dX3_bestPlace_15 : decode cX3_bestPlace 15 = .ok (.iconst 0, 1) := by decide +kernel
theorem dX3_bestPlace_16 : decode cX3_bestPlace 16 = .ok (.istore 5, 2) := by decide +kernel
theorem dX3_bestPlace_18 : decode cX3_bestPlace 18 = .ok (.iload 5, 2) := by decide +kernel
theorem dX3_bestPlace_20 : decode cX3_bestPlace 20 = .ok (.bipush 15, 2) := by decide +kernel
theorem dX3_bestPlace_22 : decode cX3_bestPlace 22 = .ok (.if_icmp .gt 42, 3) := by decide +kernel
theorem dX3_bestPlace_25 : decode cX3_bestPlace 25 = .ok (.aload_n 0, 1) := by decide +kernel
theorem dX3_bestPlace_26 : decode cX3_bestPlace 26 = .ok (.getfield 37, 3) := by decide +kernel
theorem dX3_bestPlace_29 : decode cX3_bestPlace 29 = .ok (.getfield 80, 3) := by decide +kernel
theorem dX3_bestPlace_32 : decode cX3_bestPlace 32 = .ok (.iload_n 1, 1) := by decide +kernel
theorem dX3_bestPlace_33 : decode cX3_bestPlace 33 = .ok (.iload 5, 2) := by decide +kernel
theorem dX3_bestPlace_35 : decode cX3_bestPlace 35 = .ok (.iastore, 1) := by decide +kernel
theorem dX3_bestPlace_36 : decode cX3_bestPlace 36 = .ok (.aload_n 0, 1) := by decide +kernel
theorem dX3_bestPlace_37 : decode cX3_bestPlace 37 = .ok (.bipush 16, 2) := by decide +kernel
theorem dX3_bestPlace_39 : decode cX3_bestPlace 39 = .ok (.invokevirtual 77, 3) := by decide +kernel
theorem dX3_bestPlace_42 : decode cX3_bestPlace 42 = .ok (.istore 6, 2) := by decide +kernel
theorem dX3_bestPlace_44 : decode cX3_bestPlace 44 = .ok (.iload 6, 2) := by decide +kernel
theorem dX3_bestPlace_46 : decode cX3_bestPlace 46 = .ok (.iload 4, 2) := by decide +kernel
theorem dX3_bestPlace_48 : decode cX3_bestPlace 48 = .ok (.if_icmp .le 10, 3) := by decide +kernel
theorem dX3_bestPlace_51 : decode cX3_bestPlace 51 = .ok (.iload 5, 2) := by decide +kernel
theorem dX3_bestPlace_53 : decode cX3_bestPlace 53 = .ok (.istore_n 3, 1) := by decide +kernel
theorem dX3_bestPlace_54 : decode cX3_bestPlace 54 = .ok (.iload 6, 2) := by decide +kernel
theorem dX3_bestPlace_56 : decode cX3_bestPlace 56 = .ok (.istore 4, 2) := by decide +kernel
theorem dX3_bestPlace_58 : decode cX3_bestPlace 58 = .ok (.iinc 5 1, 3) := by decide +kernel
theorem dX3_bestPlace_61 : decode cX3_bestPlace 61 = .ok (.goto (-43), 3) := by decide +kernel
theorem dX3_bestPlace_64 : decode cX3_bestPlace 64 = .ok (.aload_n 0, 1) := by decide +kernel
theorem dX3_bestPlace_65 : decode cX3_bestPlace 65 = .ok (.getfield 37, 3) := by decide +kernel
theorem dX3_bestPlace_68 : decode cX3_bestPlace 68 = .ok (.getfield 80, 3) := by decide +kernel
theorem dX3_bestPlace_71 : decode cX3_bestPlace 71 = .ok (.iload_n 1, 1) := by decide +kernel
theorem dX3_bestPlace_72 : decode cX3_bestPlace 72 = .ok (.iload_n 2, 1) := by decide +kernel
theorem dX3_bestPlace_73 : decode cX3_bestPlace 73 = .ok (.iastore, 1) := by decide +kernel
theorem dX3_bestPlace_74 : decode cX3_bestPlace 74 = .ok (.iload_n 3, 1) := by decide +kernel
theorem dX3_bestPlace_75 : decode cX3_bestPlace 75 = .ok (.ireturn, 1) := by decide +kernel
theorem dX3_isQuarrel_0 : decode cX3_isQuarrel 0 = .ok (.aload_n 0, 1) := by decide +kernel
theorem dX3_isQuarrel_1 : decode cX3_isQuarrel 1 = .ok (.getfield 37, 3) := by decide +kernel
theorem dX3_isQuarrel_4 : decode cX3_isQuarrel 4 = .ok (.getfield 83, 3) := by decide +kernel
theorem dX3_isQuarrel_7 : decode cX3_isQuarrel 7 = .ok (.iload_n 1, 1) := by decide +kernel
theorem dX3_isQuarrel_8 : decode cX3_isQuarrel 8 = .ok (.iaload, 1) := by decide +kernel
theorem dX3_isQuarrel_9 : decode cX3_isQuarrel 9 = .ok (.aload_n 0, 1) := by decide +kernel
theorem dX3_isQuarrel_10 : decode cX3_isQuarrel 10 = .ok (.getfield 37, 3) := by decide +kernel
theorem dX3_isQuarrel_13 : decode cX3_isQuarrel 13 = .ok (.getfield 83, 3) := by decide +kernel
theorem dX3_isQuarrel_16 : decode cX3_isQuarrel 16 = .ok (.iload_n 2, 1) := by decide +kernel
theorem dX3_isQuarrel_17 : decode cX3_isQuarrel 17 = .ok (.iaload, 1) := by decide +kernel
theorem dX3_isQuarrel_18 : decode cX3_isQuarrel 18 = .ok (.isub, 1) := by decide +kernel
theorem dX3_isQuarrel_19 : decode cX3_isQuarrel 19 = .ok (.invokestatic 86, 3) := by decide +kernel
theorem dX3_isQuarrel_22 : decode cX3_isQuarrel 22 = .ok (.iconst 1, 1) := by decide +kernel
theorem dX3_isQuarrel_23 : decode cX3_isQuarrel 23 = .ok (.if_icmp .gt 7, 3) := by decide +kernel
theorem dX3_isQuarrel_26 : decode cX3_isQuarrel 26 = .ok (.iconst 1, 1) := by decide +kernel
theorem dX3_isQuarrel_27 : decode cX3_isQuarrel 27 = .ok (.goto 4, 3) := by decide +kernel
theorem dX3_isQuarrel_30 : decode cX3_isQuarrel 30 = .ok (.iconst 0, 1) := by decide +kernel
theorem dX3_isQuarrel_31 : decode cX3_isQuarrel 31 = .ok (.ireturn, 1) := by decide +kernel
theorem dX3_quarrellingPairs_0 : decode cX3_quarrellingPairs 0 = .ok (.iconst 0, 1) := by decide +kernel
theorem dX3_quarrellingPairs_1 : decode cX3_quarrellingPairs 1 = .ok (.istore_n 1, 1) := by decide +kernel
theorem dX3_quarrellingPairs_2 : decode cX3_quarrellingPairs 2 = .ok (.iconst 0, 1) := by decide +kernel
theorem dX3_quarrellingPairs_3 : decode cX3_quarrellingPairs 3 = .ok (.istore_n 2, 1) := by decide +kernel
theorem dX3_quarrellingPairs_4 : decode cX3_quarrellingPairs 4 = .ok (.iload_n 2, 1) := by decide +kernel
theorem dX3_quarrellingPairs_5 : decode cX3_quarrellingPairs 5 = .ok (.aload_n 0, 1) := by decide +kernel
theorem dX3_quarrellingPairs_6 : decode cX3_quarrellingPairs 6 = .ok (.getfield 37, 3) := by decide +kernel
theorem dX3_quarrellingPairs_9 : decode cX3_quarrellingPairs 9 = .ok (.getfield 91, 3) := by decide +kernel
theorem dX3_quarrellingPairs_12 : decode cX3_quarrellingPairs 12 = .ok (.if_icmp .ge 34, 3) := by decide +kernel
theorem dX3_quarrellingPairs_15 : decode cX3_quarrellingPairs 15 = .ok (.iconst 0, 1) := by decide +kernel
theorem dX3_quarrellingPairs_16 : decode cX3_quarrellingPairs 16 = .ok (.istore_n 3, 1) := by decide +kernel
theorem dX3_quarrellingPairs_17 : decode cX3_quarrellingPairs 17 = .ok (.iload_n 3, 1) := by decide +kernel
theorem dX3_quarrellingPairs_18 : decode cX3_quarrellingPairs 18 = .ok (.iload_n 2, 1) := by decide +kernel
theorem dX3_quarrellingPairs_19 : decode cX3_quarrellingPairs 19 = .ok (.if_icmp .ge 21, 3) := by decide +kernel
theorem dX3_quarrellingPairs_22 : decode cX3_quarrellingPairs 22 = .ok (.aload_n 0, 1) := by decide +kernel
theorem dX3_quarrellingPairs_23 : decode cX3_quarrellingPairs 23 = .ok (.iload_n 2, 1) := by decide +kernel
theorem dX3_quarrellingPairs_24 : decode cX3_quarrellingPairs 24 = .ok (.iload_n 3, 1) := by decide +kernel
theorem dX3_quarrellingPairs_25 : decode cX3_quarrellingPairs 25 = .ok (.invokevirtual 94, 3) := by decide +kernel
theorem dX3_quarrellingPairs_28 : decode cX3_quarrellingPairs 28 = .ok (.ifCond .eq 6, 3) := by decide +kernel
theorem dX3_quarrellingPairs_31 : decode cX3_quarrellingPairs 31 = .ok (.iinc 1 1, 3) := by decide +kernel
theorem dX3_quarrellingPairs_34 : decode cX3_quarrellingPairs 34 = .ok (.iinc 3 1, 3) := by decide +kernel
theorem dX3_quarrellingPairs_37 : decode cX3_quarrellingPairs 37 = .ok (.goto (-20), 3) := by decide +kernel
theorem dX3_quarrellingPairs_40 : decode cX3_quarrellingPairs 40 = .ok (.iinc 2 1, 3) := by decide +kernel
theorem dX3_quarrellingPairs_43 : decode cX3_quarrellingPairs 43 = .ok (.goto (-39), 3) := by decide +kernel
theorem dX3_quarrellingPairs_46 : decode cX3_quarrellingPairs 46 = .ok (.iload_n 1, 1) := by decide +kernel
theorem dX3_quarrellingPairs_47 : decode cX3_quarrellingPairs 47 = .ok (.ireturn, 1) := by decide +kernel
theorem dX3_putApart_0 : decode cX3_putApart 0 = .ok (.iconst 0, 1) := by decide +kernel
theorem dX3_putApart_1 : decode cX3_putApart 1 = .ok (.istore_n 1, 1) := by decide +kernel
theorem dX3_putApart_2 : decode cX3_putApart 2 = .ok (.iload_n 1, 1) := by decide +kernel
theorem dX3_putApart_3 : decode cX3_putApart 3 = .ok (.aload_n 0, 1) := by decide +kernel
theorem dX3_putApart_4 : decode cX3_putApart 4 = .ok (.getfield 37, 3) := by decide +kernel
theorem dX3_putApart_7 : decode cX3_putApart 7 = .ok (.getfield 91, 3) := by decide +kernel
theorem dX3_putApart_10 : decode cX3_putApart 10 = .ok (.if_icmp .ge 20, 3) := by decide +kernel
theorem dX3_putApart_13 : decode cX3_putApart 13 = .ok (.aload_n 0, 1) := by decide +kernel
theorem dX3_putApart_14 : decode cX3_putApart 14 = .ok (.iconst 0, 1) := by decide +kernel
theorem dX3_putApart_15 : decode cX3_putApart 15 = .ok (.iload_n 1, 1) := by decide +kernel
theorem dX3_putApart_16 : decode cX3_putApart 16 = .ok (.invokevirtual 98, 3) := by decide +kernel
theorem dX3_putApart_19 : decode cX3_putApart 19 = .ok (.ifCond .eq 5, 3) := by decide +kernel
theorem dX3_putApart_22 : decode cX3_putApart 22 = .ok (.iload_n 1, 1) := by decide +kernel
theorem dX3_putApart_23 : decode cX3_putApart 23 = .ok (.ireturn, 1) := by decide +kernel
theorem dX3_putApart_24 : decode cX3_putApart 24 = .ok (.iinc 1 1, 3) := by decide +kernel
theorem dX3_putApart_27 : decode cX3_putApart 27 = .ok (.goto (-25), 3) := by decide +kernel
theorem dX3_putApart_30 : decode cX3_putApart 30 = .ok (.aload_n 0, 1) := by decide +kernel
theorem dX3_putApart_31 : decode cX3_putApart 31 = .ok (.iconst 0, 1) := by decide +kernel
theorem dX3_putApart_32 : decode cX3_putApart 32 = .ok (.aload_n 0, 1) := by decide +kernel
theorem dX3_putApart_33 : decode cX3_putApart 33 = .ok (.getfield 37, 3) := by decide +kernel
theorem dX3_putApart_36 : decode cX3_putApart 36 = .ok (.getfield 91, 3) := by decide +kernel
theorem dX3_putApart_39 : decode cX3_putApart 39 = .ok (.invokevirtual 98, 3) := by decide +kernel
theorem dX3_putApart_42 : decode cX3_putApart 42 = .ok (.pop, 1) := by decide +kernel
theorem dX3_putApart_43 : decode cX3_putApart 43 = .ok (.aload_n 0, 1) := by decide +kernel
theorem dX3_putApart_44 : decode cX3_putApart 44 = .ok (.getfield 37, 3) := by decide +kernel
theorem dX3_putApart_47 : decode cX3_putApart 47 = .ok (.getfield 91, 3) := by decide +kernel
theorem dX3_putApart_50 : decode cX3_putApart 50 = .ok (.ireturn, 1) := by decide +kernel
theorem dX3_canPutFrom_0 : decode cX3_canPutFrom 0 = .ok (.iload_n 1, 1) := by decide +kernel
theorem dX3_canPutFrom_1 : decode cX3_canPutFrom 1 = .ok (.aload_n 0, 1) := by decide +kernel
theorem dX3_canPutFrom_2 : decode cX3_canPutFrom 2 = .ok (.getfield 37, 3) := by decide +kernel
theorem dX3_canPutFrom_5 : decode cX3_canPutFrom 5 = .ok (.getfield 91, 3) := by decide +kernel
theorem dX3_canPutFrom_8 : decode cX3_canPutFrom 8 = .ok (.if_icmp .lt 5, 3) := by decide +kernel
theorem dX3_canPutFrom_11 : decode cX3_canPutFrom 11 = .ok (.iconst 1, 1) := by decide +kernel
theorem dX3_canPutFrom_12 : decode cX3_canPutFrom 12 = .ok (.ireturn, 1) := by decide +kernel
theorem dX3_canPutFrom_13 : decode cX3_canPutFrom 13 = .ok (.iconst 0, 1) := by decide +kernel
theorem dX3_canPutFrom_14 : decode cX3_canPutFrom 14 = .ok (.istore_n 3, 1) := by decide +kernel
theorem dX3_canPutFrom_15 : decode cX3_canPutFrom 15 = .ok (.iload_n 3, 1) := by decide +kernel
theorem dX3_canPutFrom_16 : decode cX3_canPutFrom 16 = .ok (.iload_n 2, 1) := by decide +kernel
theorem dX3_canPutFrom_17 : decode cX3_canPutFrom 17 = .ok (.if_icmp .ge 37, 3) := by decide +kernel
theorem dX3_canPutFrom_20 : decode cX3_canPutFrom 20 = .ok (.aload_n 0, 1) := by decide +kernel
theorem dX3_canPutFrom_21 : decode cX3_canPutFrom 21 = .ok (.getfield 31, 3) := by decide +kernel
theorem dX3_canPutFrom_24 : decode cX3_canPutFrom 24 = .ok (.iload_n 1, 1) := by decide +kernel
theorem dX3_canPutFrom_25 : decode cX3_canPutFrom 25 = .ok (.iload_n 3, 1) := by decide +kernel
theorem dX3_canPutFrom_26 : decode cX3_canPutFrom 26 = .ok (.iastore, 1) := by decide +kernel
theorem dX3_canPutFrom_27 : decode cX3_canPutFrom 27 = .ok (.aload_n 0, 1) := by decide +kernel
theorem dX3_canPutFrom_28 : decode cX3_canPutFrom 28 = .ok (.iload_n 1, 1) := by decide +kernel
theorem dX3_canPutFrom_29 : decode cX3_canPutFrom 29 = .ok (.invokevirtual 101, 3) := by decide +kernel
theorem dX3_canPutFrom_32 : decode cX3_canPutFrom 32 = .ok (.ifCond .eq 16, 3) := by decide +kernel
theorem dX3_canPutFrom_35 : decode cX3_canPutFrom 35 = .ok (.aload_n 0, 1) := by decide +kernel
theorem dX3_canPutFrom_36 : decode cX3_canPutFrom 36 = .ok (.iload_n 1, 1) := by decide +kernel
theorem dX3_canPutFrom_37 : decode cX3_canPutFrom 37 = .ok (.iconst 1, 1) := by decide +kernel
theorem dX3_canPutFrom_38 : decode cX3_canPutFrom 38 = .ok (.iadd, 1) := by decide +kernel
theorem dX3_canPutFrom_39 : decode cX3_canPutFrom 39 = .ok (.iload_n 2, 1) := by decide +kernel
theorem dX3_canPutFrom_40 : decode cX3_canPutFrom 40 = .ok (.invokevirtual 98, 3) := by decide +kernel
theorem dX3_canPutFrom_43 : decode cX3_canPutFrom 43 = .ok (.ifCond .eq 5, 3) := by decide +kernel
theorem dX3_canPutFrom_46 : decode cX3_canPutFrom 46 = .ok (.iconst 1, 1) := by decide +kernel
theorem dX3_canPutFrom_47 : decode cX3_canPutFrom 47 = .ok (.ireturn, 1) := by decide +kernel
theorem dX3_canPutFrom_48 : decode cX3_canPutFrom 48 = .ok (.iinc 3 1, 3) := by decide +kernel
theorem dX3_canPutFrom_51 : decode cX3_canPutFrom 51 = .ok (.goto (-36), 3) := by decide +kernel
theorem dX3_canPutFrom_54 : decode cX3_canPutFrom 54 = .ok (.iconst 0, 1) := by decide +kernel
theorem dX3_canPutFrom_55 : decode cX3_canPutFrom 55 = .ok (.ireturn, 1) := by decide +kernel
theorem dX3_isAtPeace_0 : decode cX3_isAtPeace 0 = .ok (.iconst 0, 1) := by decide +kernel
theorem dX3_isAtPeace_1 : decode cX3_isAtPeace 1 = .ok (.istore_n 2, 1) := by decide +kernel
theorem dX3_isAtPeace_2 : decode cX3_isAtPeace 2 = .ok (.iload_n 2, 1) := by decide +kernel
theorem dX3_isAtPeace_3 : decode cX3_isAtPeace 3 = .ok (.iload_n 1, 1) := by decide +kernel
theorem dX3_isAtPeace_4 : decode cX3_isAtPeace 4 = .ok (.if_icmp .ge 35, 3) := by decide +kernel
theorem dX3_isAtPeace_7 : decode cX3_isAtPeace 7 = .ok (.aload_n 0, 1) := by decide +kernel
theorem dX3_isAtPeace_8 : decode cX3_isAtPeace 8 = .ok (.getfield 31, 3) := by decide +kernel
theorem dX3_isAtPeace_11 : decode cX3_isAtPeace 11 = .ok (.iload_n 2, 1) := by decide +kernel
theorem dX3_isAtPeace_12 : decode cX3_isAtPeace 12 = .ok (.iaload, 1) := by decide +kernel
theorem dX3_isAtPeace_13 : decode cX3_isAtPeace 13 = .ok (.aload_n 0, 1) := by decide +kernel
theorem dX3_isAtPeace_14 : decode cX3_isAtPeace 14 = .ok (.getfield 31, 3) := by decide +kernel
theorem dX3_isAtPeace_17 : decode cX3_isAtPeace 17 = .ok (.iload_n 1, 1) := by decide +kernel
theorem dX3_isAtPeace_18 : decode cX3_isAtPeace 18 = .ok (.iaload, 1) := by decide +kernel
theorem dX3_isAtPeace_19 : decode cX3_isAtPeace 19 = .ok (.if_icmp .ne 14, 3) := by decide +kernel
theorem dX3_isAtPeace_22 : decode cX3_isAtPeace 22 = .ok (.aload_n 0, 1) := by decide +kernel
theorem dX3_isAtPeace_23 : decode cX3_isAtPeace 23 = .ok (.iload_n 1, 1) := by decide +kernel
theorem dX3_isAtPeace_24 : decode cX3_isAtPeace 24 = .ok (.iload_n 2, 1) := by decide +kernel
theorem dX3_isAtPeace_25 : decode cX3_isAtPeace 25 = .ok (.invokevirtual 94, 3) := by decide +kernel
theorem dX3_isAtPeace_28 : decode cX3_isAtPeace 28 = .ok (.ifCond .eq 5, 3) := by decide +kernel
theorem dX3_isAtPeace_31 : decode cX3_isAtPeace 31 = .ok (.iconst 0, 1) := by decide +kernel
theorem dX3_isAtPeace_32 : decode cX3_isAtPeace 32 = .ok (.ireturn, 1) := by decide +kernel
theorem dX3_isAtPeace_33 : decode cX3_isAtPeace 33 = .ok (.iinc 2 1, 3) := by decide +kernel
theorem dX3_isAtPeace_36 : decode cX3_isAtPeace 36 = .ok (.goto (-34), 3) := by decide +kernel
theorem dX3_isAtPeace_39 : decode cX3_isAtPeace 39 = .ok (.iconst 1, 1) := by decide +kernel
theorem dX3_isAtPeace_40 : decode cX3_isAtPeace 40 = .ok (.ireturn, 1) := by decide +kernel
theorem dX3_loudestChoir_0 : decode cX3_loudestChoir 0 = .ok (.iconst 0, 1) := by decide +kernel
theorem dX3_loudestChoir_1 : decode cX3_loudestChoir 1 = .ok (.istore_n 1, 1) := by decide +kernel
theorem dX3_loudestChoir_2 : decode cX3_loudestChoir 2 = .ok (.iconst 0, 1) := by decide +kernel
theorem dX3_loudestChoir_3 : decode cX3_loudestChoir 3 = .ok (.istore_n 2, 1) := by decide +kernel
theorem dX3_loudestChoir_4 : decode cX3_loudestChoir 4 = .ok (.iconst 1, 1) := by decide +kernel
theorem dX3_loudestChoir_5 : decode cX3_loudestChoir 5 = .ok (.istore_n 3, 1) := by decide +kernel
theorem dX3_loudestChoir_6 : decode cX3_loudestChoir 6 = .ok (.iload_n 3, 1) := by decide +kernel
theorem dX3_loudestChoir_7 : decode cX3_loudestChoir 7 = .ok (.iconst 1, 1) := by decide +kernel
theorem dX3_loudestChoir_8 : decode cX3_loudestChoir 8 = .ok (.aload_n 0, 1) := by decide +kernel
theorem dX3_loudestChoir_9 : decode cX3_loudestChoir 9 = .ok (.getfield 37, 3) := by decide +kernel
theorem dX3_loudestChoir_12 : decode cX3_loudestChoir 12 = .ok (.getfield 91, 3) := by decide +kernel
theorem dX3_loudestChoir_15 : decode cX3_loudestChoir 15 = .ok (.ishl, 1) := by decide +kernel
theorem dX3_loudestChoir_16 : decode cX3_loudestChoir 16 = .ok (.if_icmp .ge 35, 3) := by decide +kernel
theorem dX3_loudestChoir_19 : decode cX3_loudestChoir 19 = .ok (.aload_n 0, 1) := by decide +kernel
theorem dX3_loudestChoir_20 : decode cX3_loudestChoir 20 = .ok (.iload_n 3, 1) := by decide +kernel
theorem dX3_loudestChoir_21 : decode cX3_loudestChoir 21 = .ok (.invokevirtual 104, 3) := by decide +kernel
theorem dX3_loudestChoir_24 : decode cX3_loudestChoir 24 = .ok (.istore 4, 2) := by decide +kernel
theorem dX3_loudestChoir_26 : decode cX3_loudestChoir 26 = .ok (.iload 4, 2) := by decide +kernel
theorem dX3_loudestChoir_28 : decode cX3_loudestChoir 28 = .ok (.iload_n 2, 1) := by decide +kernel
theorem dX3_loudestChoir_29 : decode cX3_loudestChoir 29 = .ok (.if_icmp .le 16, 3) := by decide +kernel
theorem dX3_loudestChoir_32 : decode cX3_loudestChoir 32 = .ok (.aload_n 0, 1) := by decide +kernel
theorem dX3_loudestChoir_33 : decode cX3_loudestChoir 33 = .ok (.iload_n 3, 1) := by decide +kernel
theorem dX3_loudestChoir_34 : decode cX3_loudestChoir 34 = .ok (.invokevirtual 107, 3) := by decide +kernel
theorem dX3_loudestChoir_37 : decode cX3_loudestChoir 37 = .ok (.ifCond .eq 8, 3) := by decide +kernel
theorem dX3_loudestChoir_40 : decode cX3_loudestChoir 40 = .ok (.iload_n 3, 1) := by decide +kernel
theorem dX3_loudestChoir_41 : decode cX3_loudestChoir 41 = .ok (.istore_n 1, 1) := by decide +kernel
theorem dX3_loudestChoir_42 : decode cX3_loudestChoir 42 = .ok (.iload 4, 2) := by decide +kernel
theorem dX3_loudestChoir_44 : decode cX3_loudestChoir 44 = .ok (.istore_n 2, 1) := by decide +kernel
theorem dX3_loudestChoir_45 : decode cX3_loudestChoir 45 = .ok (.iinc 3 1, 3) := by decide +kernel
theorem dX3_loudestChoir_48 : decode cX3_loudestChoir 48 = .ok (.goto (-42), 3) := by decide +kernel
theorem dX3_loudestChoir_51 : decode cX3_loudestChoir 51 = .ok (.iload_n 1, 1) := by decide +kernel
theorem dX3_loudestChoir_52 : decode cX3_loudestChoir 52 = .ok (.ireturn, 1) := by decide +kernel
theorem dX3_strengthOf_0 : decode cX3_strengthOf 0 = .ok (.iconst 0, 1) := by decide +kernel
theorem dX3_strengthOf_1 : decode cX3_strengthOf 1 = .ok (.istore_n 2, 1) := by decide +kernel
theorem dX3_strengthOf_2 : decode cX3_strengthOf 2 = .ok (.iconst 0, 1) := by decide +kernel
theorem dX3_strengthOf_3 : decode cX3_strengthOf 3 = .ok (.istore_n 3, 1) := by decide +kernel
theorem dX3_strengthOf_4 : decode cX3_strengthOf 4 = .ok (.iload_n 3, 1) := by decide +kernel
theorem dX3_strengthOf_5 : decode cX3_strengthOf 5 = .ok (.aload_n 0, 1) := by decide +kernel
theorem dX3_strengthOf_6 : decode cX3_strengthOf 6 = .ok (.getfield 37, 3) := by decide +kernel
theorem dX3_strengthOf_9 : decode cX3_strengthOf 9 = .ok (.getfield 91, 3) := by decide +kernel
theorem dX3_strengthOf_12 : decode cX3_strengthOf 12 = .ok (.if_icmp .ge 27, 3) := by decide +kernel
theorem dX3_strengthOf_15 : decode cX3_strengthOf 15 = .ok (.iload_n 2, 1) := by decide +kernel
theorem dX3_strengthOf_16 : decode cX3_strengthOf 16 = .ok (.iload_n 1, 1) := by decide +kernel
theorem dX3_strengthOf_17 : decode cX3_strengthOf 17 = .ok (.iload_n 3, 1) := by decide +kernel
theorem dX3_strengthOf_18 : decode cX3_strengthOf 18 = .ok (.ishr, 1) := by decide +kernel
theorem dX3_strengthOf_19 : decode cX3_strengthOf 19 = .ok (.iconst 1, 1) := by decide +kernel
theorem dX3_strengthOf_20 : decode cX3_strengthOf 20 = .ok (.iand, 1) := by decide +kernel
theorem dX3_strengthOf_21 : decode cX3_strengthOf 21 = .ok (.aload_n 0, 1) := by decide +kernel
theorem dX3_strengthOf_22 : decode cX3_strengthOf 22 = .ok (.getfield 37, 3) := by decide +kernel
theorem dX3_strengthOf_25 : decode cX3_strengthOf 25 = .ok (.getfield 110, 3) := by decide +kernel
theorem dX3_strengthOf_28 : decode cX3_strengthOf 28 = .ok (.iload_n 3, 1) := by decide +kernel
theorem dX3_strengthOf_29 : decode cX3_strengthOf 29 = .ok (.iaload, 1) := by decide +kernel
theorem dX3_strengthOf_30 : decode cX3_strengthOf 30 = .ok (.imul, 1) := by decide +kernel
theorem dX3_strengthOf_31 : decode cX3_strengthOf 31 = .ok (.iadd, 1) := by decide +kernel
theorem dX3_strengthOf_32 : decode cX3_strengthOf 32 = .ok (.istore_n 2, 1) := by decide +kernel
theorem dX3_strengthOf_33 : decode cX3_strengthOf 33 = .ok (.iinc 3 1, 3) := by decide +kernel
theorem dX3_strengthOf_36 : decode cX3_strengthOf 36 = .ok (.goto (-32), 3) := by decide +kernel
theorem dX3_strengthOf_39 : decode cX3_strengthOf 39 = .ok (.iload_n 2, 1) := by decide +kernel
theorem dX3_strengthOf_40 : decode cX3_strengthOf 40 = .ok (.ireturn, 1) := by decide +kernel
theorem dX3_isChoir_0 : decode cX3_isChoir 0 = .ok (.iconst 0, 1) := by decide +kernel
theorem dX3_isChoir_1 : decode cX3_isChoir 1 = .ok (.istore_n 2, 1) := by decide +kernel
theorem dX3_isChoir_2 : decode cX3_isChoir 2 = .ok (.iload_n 2, 1) := by decide +kernel
theorem dX3_isChoir_3 : decode cX3_isChoir 3 = .ok (.aload_n 0, 1) := by decide +kernel
theorem dX3_isChoir_4 : decode cX3_isChoir 4 = .ok (.getfield 37, 3) := by decide +kernel
theorem dX3_isChoir_7 : decode cX3_isChoir 7 = .ok (.getfield 91, 3) := by decide +kernel
theorem dX3_isChoir_10 : decode cX3_isChoir 10 = .ok (.if_icmp .ge 46, 3) := by decide +kernel
theorem dX3_isChoir_13 : decode cX3_isChoir 13 = .ok (.iconst 0, 1) := by decide +kernel
theorem dX3_isChoir_14 : decode cX3_isChoir 14 = .ok (.istore_n 3, 1) := by decide +kernel
theorem dX3_isChoir_15 : decode cX3_isChoir 15 = .ok (.iload_n 3, 1) := by decide +kernel
theorem dX3_isChoir_16 : decode cX3_isChoir 16 = .ok (.iload_n 2, 1) := by decide +kernel
theorem dX3_isChoir_17 : decode cX3_isChoir 17 = .ok (.if_icmp .ge 33, 3) := by decide +kernel
theorem dX3_isChoir_20 : decode cX3_isChoir 20 = .ok (.iload_n 1, 1) := by decide +kernel
theorem dX3_isChoir_21 : decode cX3_isChoir 21 = .ok (.iload_n 2, 1) := by decide +kernel
theorem dX3_isChoir_22 : decode cX3_isChoir 22 = .ok (.ishr, 1) := by decide +kernel
theorem dX3_isChoir_23 : decode cX3_isChoir 23 = .ok (.iload_n 1, 1) := by decide +kernel
theorem dX3_isChoir_24 : decode cX3_isChoir 24 = .ok (.iload_n 3, 1) := by decide +kernel
theorem dX3_isChoir_25 : decode cX3_isChoir 25 = .ok (.ishr, 1) := by decide +kernel
theorem dX3_isChoir_26 : decode cX3_isChoir 26 = .ok (.iand, 1) := by decide +kernel
theorem dX3_isChoir_27 : decode cX3_isChoir 27 = .ok (.iconst 1, 1) := by decide +kernel
theorem dX3_isChoir_28 : decode cX3_isChoir 28 = .ok (.iand, 1) := by decide +kernel
theorem dX3_isChoir_29 : decode cX3_isChoir 29 = .ok (.iconst 1, 1) := by decide +kernel
theorem dX3_isChoir_30 : decode cX3_isChoir 30 = .ok (.if_icmp .ne 14, 3) := by decide +kernel
theorem dX3_isChoir_33 : decode cX3_isChoir 33 = .ok (.aload_n 0, 1) := by decide +kernel
theorem dX3_isChoir_34 : decode cX3_isChoir 34 = .ok (.iload_n 2, 1) := by decide +kernel
theorem dX3_isChoir_35 : decode cX3_isChoir 35 = .ok (.iload_n 3, 1) := by decide +kernel
theorem dX3_isChoir_36 : decode cX3_isChoir 36 = .ok (.invokevirtual 94, 3) := by decide +kernel
theorem dX3_isChoir_39 : decode cX3_isChoir 39 = .ok (.ifCond .eq 5, 3) := by decide +kernel
theorem dX3_isChoir_42 : decode cX3_isChoir 42 = .ok (.iconst 0, 1) := by decide +kernel
theorem dX3_isChoir_43 : decode cX3_isChoir 43 = .ok (.ireturn, 1) := by decide +kernel
theorem dX3_isChoir_44 : decode cX3_isChoir 44 = .ok (.iinc 3 1, 3) := by decide +kernel
theorem dX3_isChoir_47 : decode cX3_isChoir 47 = .ok (.goto (-32), 3) := by decide +kernel
theorem dX3_isChoir_50 : decode cX3_isChoir 50 = .ok (.iinc 2 1, 3) := by decide +kernel
theorem dX3_isChoir_53 : decode cX3_isChoir 53 = .ok (.goto (-51), 3) := by decide +kernel
theorem dX3_isChoir_56 : decode cX3_isChoir 56 = .ok (.iconst 1, 1) := by decide +kernel
theorem dX3_isChoir_57 : decode cX3_isChoir 57 = .ok (.ireturn, 1) := by decide +kernel
theorem dX3_planLength_0 : decode cX3_planLength 0 = .ok (.iconst 0, 1) := by decide +kernel
theorem dX3_planLength_1 : decode cX3_planLength 1 = .ok (.iload_n 1, 1) := by decide +kernel
theorem dX3_planLength_2 : decode cX3_planLength 2 = .ok (.iconst 4, 1) := by decide +kernel
theorem dX3_planLength_3 : decode cX3_planLength 3 = .ok (.invokestatic 113, 3) := by decide +kernel
theorem dX3_planLength_6 : decode cX3_planLength 6 = .ok (.aload_n 0, 1) := by decide +kernel
theorem dX3_planLength_7 : decode cX3_planLength 7 = .ok (.getfield 37, 3) := by decide +kernel
theorem dX3_planLength_10 : decode cX3_planLength 10 = .ok (.getfield 117, 3) := by decide +kernel
theorem dX3_planLength_13 : decode cX3_planLength 13 = .ok (.aload_n 0, 1) := by decide +kernel
theorem dX3_planLength_14 : decode cX3_planLength 14 = .ok (.getfield 37, 3) := by decide +kernel
theorem dX3_planLength_17 : decode cX3_planLength 17 = .ok (.getfield 70, 3) := by decide +kernel
theorem dX3_planLength_20 : decode cX3_planLength 20 = .ok (.isub, 1) := by decide +kernel
theorem dX3_planLength_21 : decode cX3_planLength 21 = .ok (.invokestatic 113, 3) := by decide +kernel
theorem dX3_planLength_24 : decode cX3_planLength 24 = .ok (.invokestatic 120, 3) := by decide +kernel
theorem dX3_planLength_27 : decode cX3_planLength 27 = .ok (.ireturn, 1) := by decide +kernel
theorem dX3_search_0 : decode cX3_search 0 = .ok (.aload_n 0, 1) := by decide +kernel
theorem dX3_search_1 : decode cX3_search 1 = .ok (.aload_n 0, 1) := by decide +kernel
theorem dX3_search_2 : decode cX3_search 2 = .ok (.iload_n 1, 1) := by decide +kernel
theorem dX3_search_3 : decode cX3_search 3 = .ok (.invokevirtual 123, 3) := by decide +kernel
theorem dX3_search_6 : decode cX3_search 6 = .ok (.putfield 126, 3) := by decide +kernel
theorem dX3_search_9 : decode cX3_search 9 = .ok (.aload_n 0, 1) := by decide +kernel
theorem dX3_search_10 : decode cX3_search 10 = .ok (.iload_n 2, 1) := by decide +kernel
theorem dX3_search_11 : decode cX3_search 11 = .ok (.putfield 129, 3) := by decide +kernel
theorem dX3_search_14 : decode cX3_search 14 = .ok (.aload_n 0, 1) := by decide +kernel
theorem dX3_search_15 : decode cX3_search 15 = .ok (.iconst (-1), 1) := by decide +kernel
theorem dX3_search_16 : decode cX3_search 16 = .ok (.putfield 132, 3) := by decide +kernel
theorem dX3_search_19 : decode cX3_search 19 = .ok (.aload_n 0, 1) := by decide +kernel
theorem dX3_search_20 : decode cX3_search 20 = .ok (.iconst 0, 1) := by decide +kernel
theorem dX3_search_21 : decode cX3_search 21 = .ok (.putfield 135, 3) := by decide +kernel
theorem dX3_search_24 : decode cX3_search 24 = .ok (.aload_n 0, 1) := by decide +kernel
theorem dX3_search_25 : decode cX3_search 25 = .ok (.bipush (-3), 2) := by decide +kernel
theorem dX3_search_27 : decode cX3_search 27 = .ok (.putfield 138, 3) := by decide +kernel
theorem dX3_search_30 : decode cX3_search 30 = .ok (.aload_n 0, 1) := by decide +kernel
theorem dX3_search_31 : decode cX3_search 31 = .ok (.iconst 0, 1) := by decide +kernel
theorem dX3_search_32 : decode cX3_search 32 = .ok (.putfield 141, 3) := by decide +kernel
theorem dX3_search_35 : decode cX3_search 35 = .ok (.aload_n 0, 1) := by decide +kernel
theorem dX3_search_36 : decode cX3_search 36 = .ok (.iconst 0, 1) := by decide +kernel
theorem dX3_search_37 : decode cX3_search 37 = .ok (.iconst 0, 1) := by decide +kernel
theorem dX3_search_38 : decode cX3_search 38 = .ok (.iconst 0, 1) := by decide +kernel
theorem dX3_search_39 : decode cX3_search 39 = .ok (.invokevirtual 144, 3) := by decide +kernel
theorem dX3_search_42 : decode cX3_search 42 = .ok (.return_, 1) := by decide +kernel
theorem dX3_walk_0 : decode cX3_walk 0 = .ok (.iload_n 1, 1) := by decide +kernel
theorem dX3_walk_1 : decode cX3_walk 1 = .ok (.aload_n 0, 1) := by decide +kernel
theorem dX3_walk_2 : decode cX3_walk 2 = .ok (.getfield 126, 3) := by decide +kernel
theorem dX3_walk_5 : decode cX3_walk 5 = .ok (.if_icmp .lt 10, 3) := by decide +kernel
theorem dX3_walk_8 : decode cX3_walk 8 = .ok (.aload_n 0, 1) := by decide +kernel
theorem dX3_walk_9 : decode cX3_walk 9 = .ok (.iload_n 2, 1) := by decide +kernel
theorem dX3_walk_10 : decode cX3_walk 10 = .ok (.iload_n 3, 1) := by decide +kernel
theorem dX3_walk_11 : decode cX3_walk 11 = .ok (.invokevirtual 148, 3) := by decide +kernel
theorem dX3_walk_14 : decode cX3_walk 14 = .ok (.return_, 1) := by decide +kernel
theorem dX3_walk_15 : decode cX3_walk 15 = .ok (.aload_n 0, 1) := by decide +kernel
theorem dX3_walk_16 : decode cX3_walk 16 = .ok (.getfield 37, 3) := by decide +kernel
theorem dX3_walk_19 : decode cX3_walk 19 = .ok (.aload_n 0, 1) := by decide +kernel
theorem dX3_walk_20 : decode cX3_walk 20 = .ok (.getfield 19, 3) := by decide +kernel
theorem dX3_walk_23 : decode cX3_walk 23 = .ok (.iload_n 1, 1) := by decide +kernel
theorem dX3_walk_24 : decode cX3_walk 24 = .ok (.aaload, 1) := by decide +kernel
theorem dX3_walk_25 : decode cX3_walk 25 = .ok (.invokevirtual 41, 3) := by decide +kernel
theorem dX3_walk_28 : decode cX3_walk 28 = .ok (.aload_n 0, 1) := by decide +kernel
theorem dX3_walk_29 : decode cX3_walk 29 = .ok (.getfield 37, 3) := by decide +kernel
theorem dX3_walk_32 : decode cX3_walk 32 = .ok (.invokevirtual 152, 3) := by decide +kernel
theorem dX3_walk_35 : decode cX3_walk 35 = .ok (.aload_n 0, 1) := by decide +kernel
theorem dX3_walk_36 : decode cX3_walk 36 = .ok (.getfield 37, 3) := by decide +kernel
theorem dX3_walk_39 : decode cX3_walk 39 = .ok (.aload_n 0, 1) := by decide +kernel
theorem dX3_walk_40 : decode cX3_walk 40 = .ok (.getfield 22, 3) := by decide +kernel
theorem dX3_walk_43 : decode cX3_walk 43 = .ok (.iload_n 1, 1) := by decide +kernel
theorem dX3_walk_44 : decode cX3_walk 44 = .ok (.aaload, 1) := by decide +kernel
theorem dX3_walk_45 : decode cX3_walk 45 = .ok (.invokevirtual 41, 3) := by decide +kernel
theorem dX3_walk_48 : decode cX3_walk 48 = .ok (.iconst 0, 1) := by decide +kernel
theorem dX3_walk_49 : decode cX3_walk 49 = .ok (.istore 4, 2) := by decide +kernel
theorem dX3_walk_51 : decode cX3_walk 51 = .ok (.iload 4, 2) := by decide +kernel
theorem dX3_walk_53 : decode cX3_walk 53 = .ok (.aload_n 0, 1) := by decide +kernel
theorem dX3_walk_54 : decode cX3_walk 54 = .ok (.getfield 37, 3) := by decide +kernel
theorem dX3_walk_57 : decode cX3_walk 57 = .ok (.getfield 91, 3) := by decide +kernel
theorem dX3_walk_60 : decode cX3_walk 60 = .ok (.if_icmp .gt 64, 3) := by decide +kernel
theorem dX3_walk_63 : decode cX3_walk 63 = .ok (.aload_n 0, 1) := by decide +kernel
theorem dX3_walk_64 : decode cX3_walk 64 = .ok (.getfield 25, 3) := by decide +kernel
theorem dX3_walk_67 : decode cX3_walk 67 = .ok (.iload_n 1, 1) := by decide +kernel
theorem dX3_walk_68 : decode cX3_walk 68 = .ok (.iload 4, 2) := by decide +kernel
theorem dX3_walk_70 : decode cX3_walk 70 = .ok (.iastore, 1) := by decide +kernel
theorem dX3_walk_71 : decode cX3_walk 71 = .ok (.aload_n 0, 1) := by decide +kernel
theorem dX3_walk_72 : decode cX3_walk 72 = .ok (.getfield 37, 3) := by decide +kernel
theorem dX3_walk_75 : decode cX3_walk 75 = .ok (.iload 4, 2) := by decide +kernel
theorem dX3_walk_77 : decode cX3_walk 77 = .ok (.invokevirtual 155, 3) := by decide +kernel
theorem dX3_walk_80 : decode cX3_walk 80 = .ok (.istore 5, 2) := by decide +kernel
theorem dX3_walk_82 : decode cX3_walk 82 = .ok (.aload_n 0, 1) := by decide +kernel
theorem dX3_walk_83 : decode cX3_walk 83 = .ok (.iload_n 1, 1) := by decide +kernel
theorem dX3_walk_84 : decode cX3_walk 84 = .ok (.iconst 1, 1) := by decide +kernel
theorem dX3_walk_85 : decode cX3_walk 85 = .ok (.iadd, 1) := by decide +kernel
theorem dX3_walk_86 : decode cX3_walk 86 = .ok (.iload_n 2, 1) := by decide +kernel
theorem dX3_walk_87 : decode cX3_walk 87 = .ok (.iload 5, 2) := by decide +kernel
theorem dX3_walk_89 : decode cX3_walk 89 = .ok (.iadd, 1) := by decide +kernel
theorem dX3_walk_90 : decode cX3_walk 90 = .ok (.iload 4, 2) := by decide +kernel
theorem dX3_walk_92 : decode cX3_walk 92 = .ok (.ifCond .ne 7, 3) := by decide +kernel
theorem dX3_walk_95 : decode cX3_walk 95 = .ok (.iload_n 3, 1) := by decide +kernel
theorem dX3_walk_96 : decode cX3_walk 96 = .ok (.goto 6, 3) := by decide +kernel
theorem dX3_walk_99 : decode cX3_walk 99 = .ok (.iload_n 3, 1) := by decide +kernel
theorem dX3_walk_100 : decode cX3_walk 100 = .ok (.iconst 1, 1) := by decide +kernel
theorem dX3_walk_101 : decode cX3_walk 101 = .ok (.iadd, 1) := by decide +kernel
theorem dX3_walk_102 : decode cX3_walk 102 = .ok (.invokevirtual 144, 3) := by decide +kernel
theorem dX3_walk_105 : decode cX3_walk 105 = .ok (.aload_n 0, 1) := by decide +kernel
theorem dX3_walk_106 : decode cX3_walk 106 = .ok (.getfield 37, 3) := by decide +kernel
theorem dX3_walk_109 : decode cX3_walk 109 = .ok (.aload_n 0, 1) := by decide +kernel
theorem dX3_walk_110 : decode cX3_walk 110 = .ok (.getfield 22, 3) := by decide +kernel
theorem dX3_walk_113 : decode cX3_walk 113 = .ok (.iload_n 1, 1) := by decide +kernel
theorem dX3_walk_114 : decode cX3_walk 114 = .ok (.aaload, 1) := by decide +kernel
theorem dX3_walk_115 : decode cX3_walk 115 = .ok (.invokevirtual 45, 3) := by decide +kernel
theorem dX3_walk_118 : decode cX3_walk 118 = .ok (.iinc 4 1, 3) := by decide +kernel
theorem dX3_walk_121 : decode cX3_walk 121 = .ok (.goto (-70), 3) := by decide +kernel
theorem dX3_walk_124 : decode cX3_walk 124 = .ok (.aload_n 0, 1) := by decide +kernel
theorem dX3_walk_125 : decode cX3_walk 125 = .ok (.getfield 37, 3) := by decide +kernel
theorem dX3_walk_128 : decode cX3_walk 128 = .ok (.aload_n 0, 1) := by decide +kernel
theorem dX3_walk_129 : decode cX3_walk 129 = .ok (.getfield 19, 3) := by decide +kernel
theorem dX3_walk_132 : decode cX3_walk 132 = .ok (.iload_n 1, 1) := by decide +kernel
theorem dX3_walk_133 : decode cX3_walk 133 = .ok (.aaload, 1) := by decide +kernel
theorem dX3_walk_134 : decode cX3_walk 134 = .ok (.invokevirtual 45, 3) := by decide +kernel
theorem dX3_walk_137 : decode cX3_walk 137 = .ok (.return_, 1) := by decide +kernel
theorem dX3_weigh_0 : decode cX3_weigh 0 = .ok (.iload_n 1, 1) := by decide +kernel
theorem dX3_weigh_1 : decode cX3_weigh 1 = .ok (.aload_n 0, 1) := by decide +kernel
theorem dX3_weigh_2 : decode cX3_weigh 2 = .ok (.getfield 132, 3) := by decide +kernel
theorem dX3_weigh_5 : decode cX3_weigh 5 = .ok (.if_icmp .le 27, 3) := by decide +kernel
theorem dX3_weigh_8 : decode cX3_weigh 8 = .ok (.aload_n 0, 1) := by decide +kernel
theorem dX3_weigh_9 : decode cX3_weigh 9 = .ok (.iload_n 1, 1) := by decide +kernel
theorem dX3_weigh_10 : decode cX3_weigh 10 = .ok (.putfield 132, 3) := by decide +kernel
theorem dX3_weigh_13 : decode cX3_weigh 13 = .ok (.aload_n 0, 1) := by decide +kernel
theorem dX3_weigh_14 : decode cX3_weigh 14 = .ok (.iconst 0, 1) := by decide +kernel
theorem dX3_weigh_15 : decode cX3_weigh 15 = .ok (.putfield 135, 3) := by decide +kernel
theorem dX3_weigh_18 : decode cX3_weigh 18 = .ok (.aload_n 0, 1) := by decide +kernel
theorem dX3_weigh_19 : decode cX3_weigh 19 = .ok (.getfield 25, 3) := by decide +kernel
theorem dX3_weigh_22 : decode cX3_weigh 22 = .ok (.iconst 0, 1) := by decide +kernel
theorem dX3_weigh_23 : decode cX3_weigh 23 = .ok (.aload_n 0, 1) := by decide +kernel
theorem dX3_weigh_24 : decode cX3_weigh 24 = .ok (.getfield 28, 3) := by decide +kernel
theorem dX3_weigh_27 : decode cX3_weigh 27 = .ok (.iconst 0, 1) := by decide +kernel
theorem dX3_weigh_28 : decode cX3_weigh 28 = .ok (.iconst 4, 1) := by decide +kernel
theorem dX3_weigh_29 : decode cX3_weigh 29 = .ok (.invokestatic 158, 3) := by decide +kernel
theorem dX3_weigh_32 : decode cX3_weigh 32 = .ok (.iload_n 1, 1) := by decide +kernel
theorem dX3_weigh_33 : decode cX3_weigh 33 = .ok (.aload_n 0, 1) := by decide +kernel
theorem dX3_weigh_34 : decode cX3_weigh 34 = .ok (.getfield 132, 3) := by decide +kernel
theorem dX3_weigh_37 : decode cX3_weigh 37 = .ok (.if_icmp .ne 13, 3) := by decide +kernel
theorem dX3_weigh_40 : decode cX3_weigh 40 = .ok (.aload_n 0, 1) := by decide +kernel
theorem dX3_weigh_41 : decode cX3_weigh 41 = .ok (.dup, 1) := by decide +kernel
theorem dX3_weigh_42 : decode cX3_weigh 42 = .ok (.getfield 135, 3) := by decide +kernel
theorem dX3_weigh_45 : decode cX3_weigh 45 = .ok (.iconst 1, 1) := by decide +kernel
theorem dX3_weigh_46 : decode cX3_weigh 46 = .ok (.iadd, 1) := by decide +kernel
theorem dX3_weigh_47 : decode cX3_weigh 47 = .ok (.putfield 135, 3) := by decide +kernel
theorem dX3_weigh_50 : decode cX3_weigh 50 = .ok (.aload_n 0, 1) := by decide +kernel
theorem dX3_weigh_51 : decode cX3_weigh 51 = .ok (.dup, 1) := by decide +kernel
theorem dX3_weigh_52 : decode cX3_weigh 52 = .ok (.getfield 141, 3) := by decide +kernel
theorem dX3_weigh_55 : decode cX3_weigh 55 = .ok (.aload_n 0, 1) := by decide +kernel
theorem dX3_weigh_56 : decode cX3_weigh 56 = .ok (.getfield 37, 3) := by decide +kernel
theorem dX3_weigh_59 : decode cX3_weigh 59 = .ok (.getfield 164, 3) := by decide +kernel
theorem dX3_weigh_62 : decode cX3_weigh 62 = .ok (.ior, 1) := by decide +kernel
theorem dX3_weigh_63 : decode cX3_weigh 63 = .ok (.putfield 141, 3) := by decide +kernel
theorem dX3_weigh_66 : decode cX3_weigh 66 = .ok (.aload_n 0, 1) := by decide +kernel
theorem dX3_weigh_67 : decode cX3_weigh 67 = .ok (.getfield 129, 3) := by decide +kernel
theorem dX3_weigh_70 : decode cX3_weigh 70 = .ok (.aload_n 0, 1) := by decide +kernel
theorem dX3_weigh_71 : decode cX3_weigh 71 = .ok (.getfield 37, 3) := by decide +kernel
theorem dX3_weigh_74 : decode cX3_weigh 74 = .ok (.getfield 164, 3) := by decide +kernel
theorem dX3_weigh_77 : decode cX3_weigh 77 = .ok (.iconst (-1), 1) := by decide +kernel
theorem dX3_weigh_78 : decode cX3_weigh 78 = .ok (.ixor, 1) := by decide +kernel
theorem dX3_weigh_79 : decode cX3_weigh 79 = .ok (.iand, 1) := by decide +kernel
theorem dX3_weigh_80 : decode cX3_weigh 80 = .ok (.ifCond .ne 25, 3) := by decide +kernel
theorem dX3_weigh_83 : decode cX3_weigh 83 = .ok (.aload_n 0, 1) := by decide +kernel
theorem dX3_weigh_84 : decode cX3_weigh 84 = .ok (.getfield 138, 3) := by decide +kernel
theorem dX3_weigh_87 : decode cX3_weigh 87 = .ok (.bipush (-3), 2) := by decide +kernel
theorem dX3_weigh_89 : decode cX3_weigh 89 = .ok (.if_icmp .eq 11, 3) := by decide +kernel
theorem dX3_weigh_92 : decode cX3_weigh 92 = .ok (.iload_n 2, 1) := by decide +kernel
theorem dX3_weigh_93 : decode cX3_weigh 93 = .ok (.aload_n 0, 1) := by decide +kernel
theorem dX3_weigh_94 : decode cX3_weigh 94 = .ok (.getfield 138, 3) := by decide +kernel
theorem dX3_weigh_97 : decode cX3_weigh 97 = .ok (.if_icmp .ge 8, 3) := by decide +kernel
theorem dX3_weigh_100 : decode cX3_weigh 100 = .ok (.aload_n 0, 1) := by decide +kernel
theorem dX3_weigh_101 : decode cX3_weigh 101 = .ok (.iload_n 2, 1) := by decide +kernel
theorem dX3_weigh_102 : decode cX3_weigh 102 = .ok (.putfield 138, 3) := by decide +kernel
theorem dX3_weigh_105 : decode cX3_weigh 105 = .ok (.return_, 1) := by decide +kernel
theorem dX3_valueOfGame_0 : decode cX3_valueOfGame 0 = .ok (.aload_n 0, 1) := by decide +kernel
theorem dX3_valueOfGame_1 : decode cX3_valueOfGame 1 = .ok (.aload_n 0, 1) := by decide +kernel
theorem dX3_valueOfGame_2 : decode cX3_valueOfGame 2 = .ok (.iload_n 1, 1) := by decide +kernel
theorem dX3_valueOfGame_3 : decode cX3_valueOfGame 3 = .ok (.invokevirtual 123, 3) := by decide +kernel
theorem dX3_valueOfGame_6 : decode cX3_valueOfGame 6 = .ok (.putfield 126, 3) := by decide +kernel
theorem dX3_valueOfGame_9 : decode cX3_valueOfGame 9 = .ok (.aload_n 0, 1) := by decide +kernel
theorem dX3_valueOfGame_10 : decode cX3_valueOfGame 10 = .ok (.iconst 0, 1) := by decide +kernel
theorem dX3_valueOfGame_11 : decode cX3_valueOfGame 11 = .ok (.putfield 167, 3) := by decide +kernel
theorem dX3_valueOfGame_14 : decode cX3_valueOfGame 14 = .ok (.aload_n 0, 1) := by decide +kernel
theorem dX3_valueOfGame_15 : decode cX3_valueOfGame 15 = .ok (.iconst 0, 1) := by decide +kernel
theorem dX3_valueOfGame_16 : decode cX3_valueOfGame 16 = .ok (.invokevirtual 170, 3) := by decide +kernel
theorem dX3_valueOfGame_19 : decode cX3_valueOfGame 19 = .ok (.ireturn, 1) := by decide +kernel
theorem dX3_valueFrom_0 : decode cX3_valueFrom 0 = .ok (.iload_n 1, 1) := by decide +kernel
theorem dX3_valueFrom_1 : decode cX3_valueFrom 1 = .ok (.aload_n 0, 1) := by decide +kernel
theorem dX3_valueFrom_2 : decode cX3_valueFrom 2 = .ok (.getfield 126, 3) := by decide +kernel
theorem dX3_valueFrom_5 : decode cX3_valueFrom 5 = .ok (.if_icmp .lt 5, 3) := by decide +kernel
theorem dX3_valueFrom_8 : decode cX3_valueFrom 8 = .ok (.iconst 0, 1) := by decide +kernel
theorem dX3_valueFrom_9 : decode cX3_valueFrom 9 = .ok (.ireturn, 1) := by decide +kernel
theorem dX3_valueFrom_10 : decode cX3_valueFrom 10 = .ok (.iload_n 1, 1) := by decide +kernel
theorem dX3_valueFrom_11 : decode cX3_valueFrom 11 = .ok (.iconst 1, 1) := by decide +kernel
theorem dX3_valueFrom_12 : decode cX3_valueFrom 12 = .ok (.iand, 1) := by decide +kernel
theorem dX3_valueFrom_13 : decode cX3_valueFrom 13 = .ok (.ifCond .ne 7, 3) := by decide +kernel
theorem dX3_valueFrom_16 : decode cX3_valueFrom 16 = .ok (.iconst 1, 1) := by decide +kernel
theorem dX3_valueFrom_17 : decode cX3_valueFrom 17 = .ok (.goto 4, 3) := by decide +kernel
theorem dX3_valueFrom_20 : decode cX3_valueFrom 20 = .ok (.iconst 0, 1) := by decide +kernel
theorem dX3_valueFrom_21 : decode cX3_valueFrom 21 = .ok (.istore_n 2, 1) := by decide +kernel
theorem dX3_valueFrom_22 : decode cX3_valueFrom 22 = .ok (.iconst 0, 1) := by decide +kernel
theorem dX3_valueFrom_23 : decode cX3_valueFrom 23 = .ok (.istore_n 3, 1) := by decide +kernel
theorem dX3_valueFrom_24 : decode cX3_valueFrom 24 = .ok (.aload_n 0, 1) := by decide +kernel
theorem dX3_valueFrom_25 : decode cX3_valueFrom 25 = .ok (.getfield 37, 3) := by decide +kernel
theorem dX3_valueFrom_28 : decode cX3_valueFrom 28 = .ok (.aload_n 0, 1) := by decide +kernel
theorem dX3_valueFrom_29 : decode cX3_valueFrom 29 = .ok (.getfield 19, 3) := by decide +kernel
theorem dX3_valueFrom_32 : decode cX3_valueFrom 32 = .ok (.iload_n 1, 1) := by decide +kernel
theorem dX3_valueFrom_33 : decode cX3_valueFrom 33 = .ok (.aaload, 1) := by decide +kernel
theorem dX3_valueFrom_34 : decode cX3_valueFrom 34 = .ok (.invokevirtual 41, 3) := by decide +kernel
theorem dX3_valueFrom_37 : decode cX3_valueFrom 37 = .ok (.aload_n 0, 1) := by decide +kernel
theorem dX3_valueFrom_38 : decode cX3_valueFrom 38 = .ok (.getfield 37, 3) := by decide +kernel
theorem dX3_valueFrom_41 : decode cX3_valueFrom 41 = .ok (.invokevirtual 152, 3) := by decide +kernel
theorem dX3_valueFrom_44 : decode cX3_valueFrom 44 = .ok (.aload_n 0, 1) := by decide +kernel
theorem dX3_valueFrom_45 : decode cX3_valueFrom 45 = .ok (.getfield 37, 3) := by decide +kernel
theorem dX3_valueFrom_48 : decode cX3_valueFrom 48 = .ok (.aload_n 0, 1) := by decide +kernel
theorem dX3_valueFrom_49 : decode cX3_valueFrom 49 = .ok (.getfield 22, 3) := by decide +kernel
theorem dX3_valueFrom_52 : decode cX3_valueFrom 52 = .ok (.iload_n 1, 1) := by decide +kernel
theorem dX3_valueFrom_53 : decode cX3_valueFrom 53 = .ok (.aaload, 1) := by decide +kernel
theorem dX3_valueFrom_54 : decode cX3_valueFrom 54 = .ok (.invokevirtual 41, 3) := by decide +kernel
theorem dX3_valueFrom_57 : decode cX3_valueFrom 57 = .ok (.iconst 0, 1) := by decide +kernel
theorem dX3_valueFrom_58 : decode cX3_valueFrom 58 = .ok (.istore 4, 2) := by decide +kernel
theorem dX3_valueFrom_60 : decode cX3_valueFrom 60 = .ok (.iload 4, 2) := by decide +kernel
theorem dX3_valueFrom_62 : decode cX3_valueFrom 62 = .ok (.aload_n 0, 1) := by decide +kernel
theorem dX3_valueFrom_63 : decode cX3_valueFrom 63 = .ok (.getfield 37, 3) := by decide +kernel
theorem dX3_valueFrom_66 : decode cX3_valueFrom 66 = .ok (.getfield 91, 3) := by decide +kernel
theorem dX3_valueFrom_69 : decode cX3_valueFrom 69 = .ok (.if_icmp .gt 78, 3) := by decide +kernel
theorem dX3_valueFrom_72 : decode cX3_valueFrom 72 = .ok (.aload_n 0, 1) := by decide +kernel
theorem dX3_valueFrom_73 : decode cX3_valueFrom 73 = .ok (.getfield 37, 3) := by decide +kernel
theorem dX3_valueFrom_76 : decode cX3_valueFrom 76 = .ok (.iload 4, 2) := by decide +kernel
theorem dX3_valueFrom_78 : decode cX3_valueFrom 78 = .ok (.invokevirtual 155, 3) := by decide +kernel
theorem dX3_valueFrom_81 : decode cX3_valueFrom 81 = .ok (.aload_n 0, 1) := by decide +kernel
theorem dX3_valueFrom_82 : decode cX3_valueFrom 82 = .ok (.iload_n 1, 1) := by decide +kernel
theorem dX3_valueFrom_83 : decode cX3_valueFrom 83 = .ok (.iconst 1, 1) := by decide +kernel
theorem dX3_valueFrom_84 : decode cX3_valueFrom 84 = .ok (.iadd, 1) := by decide +kernel
theorem dX3_valueFrom_85 : decode cX3_valueFrom 85 = .ok (.invokevirtual 170, 3) := by decide +kernel
theorem dX3_valueFrom_88 : decode cX3_valueFrom 88 = .ok (.iadd, 1) := by decide +kernel
theorem dX3_valueFrom_89 : decode cX3_valueFrom 89 = .ok (.istore 5, 2) := by decide +kernel
theorem dX3_valueFrom_91 : decode cX3_valueFrom 91 = .ok (.aload_n 0, 1) := by decide +kernel
theorem dX3_valueFrom_92 : decode cX3_valueFrom 92 = .ok (.getfield 37, 3) := by decide +kernel
theorem dX3_valueFrom_95 : decode cX3_valueFrom 95 = .ok (.aload_n 0, 1) := by decide +kernel
theorem dX3_valueFrom_96 : decode cX3_valueFrom 96 = .ok (.getfield 22, 3) := by decide +kernel
theorem dX3_valueFrom_99 : decode cX3_valueFrom 99 = .ok (.iload_n 1, 1) := by decide +kernel
theorem dX3_valueFrom_100 : decode cX3_valueFrom 100 = .ok (.aaload, 1) := by decide +kernel
theorem dX3_valueFrom_101 : decode cX3_valueFrom 101 = .ok (.invokevirtual 45, 3) := by decide +kernel
theorem dX3_valueFrom_104 : decode cX3_valueFrom 104 = .ok (.iload 4, 2) := by decide +kernel
theorem dX3_valueFrom_106 : decode cX3_valueFrom 106 = .ok (.ifCond .eq 22, 3) := by decide +kernel
theorem dX3_valueFrom_109 : decode cX3_valueFrom 109 = .ok (.iload_n 2, 1) := by decide +kernel
theorem dX3_valueFrom_110 : decode cX3_valueFrom 110 = .ok (.ifCond .eq 12, 3) := by decide +kernel
theorem dX3_valueFrom_113 : decode cX3_valueFrom 113 = .ok (.iload 5, 2) := by decide +kernel
theorem dX3_valueFrom_115 : decode cX3_valueFrom 115 = .ok (.iload_n 3, 1) := by decide +kernel
theorem dX3_valueFrom_116 : decode cX3_valueFrom 116 = .ok (.if_icmp .le 25, 3) := by decide +kernel
theorem dX3_valueFrom_119 : decode cX3_valueFrom 119 = .ok (.goto 9, 3) := by decide +kernel
theorem dX3_valueFrom_122 : decode cX3_valueFrom 122 = .ok (.iload 5, 2) := by decide +kernel
theorem dX3_valueFrom_124 : decode cX3_valueFrom 124 = .ok (.iload_n 3, 1) := by decide +kernel
theorem dX3_valueFrom_125 : decode cX3_valueFrom 125 = .ok (.if_icmp .ge 16, 3) := by decide +kernel
theorem dX3_valueFrom_128 : decode cX3_valueFrom 128 = .ok (.iload 5, 2) := by decide +kernel
theorem dX3_valueFrom_130 : decode cX3_valueFrom 130 = .ok (.istore_n 3, 1) := by decide +kernel
theorem dX3_valueFrom_131 : decode cX3_valueFrom 131 = .ok (.iload_n 1, 1) := by decide +kernel
theorem dX3_valueFrom_132 : decode cX3_valueFrom 132 = .ok (.ifCond .ne 9, 3) := by decide +kernel
theorem dX3_valueFrom_135 : decode cX3_valueFrom 135 = .ok (.aload_n 0, 1) := by decide +kernel
theorem dX3_valueFrom_136 : decode cX3_valueFrom 136 = .ok (.iload 4, 2) := by decide +kernel
theorem dX3_valueFrom_138 : decode cX3_valueFrom 138 = .ok (.putfield 167, 3) := by decide +kernel
theorem dX3_valueFrom_141 : decode cX3_valueFrom 141 = .ok (.iinc 4 1, 3) := by decide +kernel
theorem dX3_valueFrom_144 : decode cX3_valueFrom 144 = .ok (.goto (-84), 3) := by decide +kernel
theorem dX3_valueFrom_147 : decode cX3_valueFrom 147 = .ok (.aload_n 0, 1) := by decide +kernel
theorem dX3_valueFrom_148 : decode cX3_valueFrom 148 = .ok (.getfield 37, 3) := by decide +kernel
theorem dX3_valueFrom_151 : decode cX3_valueFrom 151 = .ok (.aload_n 0, 1) := by decide +kernel
theorem dX3_valueFrom_152 : decode cX3_valueFrom 152 = .ok (.getfield 19, 3) := by decide +kernel
theorem dX3_valueFrom_155 : decode cX3_valueFrom 155 = .ok (.iload_n 1, 1) := by decide +kernel
theorem dX3_valueFrom_156 : decode cX3_valueFrom 156 = .ok (.aaload, 1) := by decide +kernel
theorem dX3_valueFrom_157 : decode cX3_valueFrom 157 = .ok (.invokevirtual 45, 3) := by decide +kernel
theorem dX3_valueFrom_160 : decode cX3_valueFrom 160 = .ok (.iload_n 3, 1) := by decide +kernel
theorem dX3_valueFrom_161 : decode cX3_valueFrom 161 = .ok (.ireturn, 1) := by decide +kernel
theorem dX3_kindOfStranger_0 : decode cX3_kindOfStranger 0 = .ok (.iload_n 0, 1) := by decide +kernel
theorem dX3_kindOfStranger_1 : decode cX3_kindOfStranger 1 = .ok (.bipush 16, 2) := by decide +kernel
theorem dX3_kindOfStranger_3 : decode cX3_kindOfStranger 3 = .ok (.idiv, 1) := by decide +kernel
theorem dX3_kindOfStranger_4 : decode cX3_kindOfStranger 4 = .ok (.iconst 1, 1) := by decide +kernel
theorem dX3_kindOfStranger_5 : decode cX3_kindOfStranger 5 = .ok (.iadd, 1) := by decide +kernel
theorem dX3_kindOfStranger_6 : decode cX3_kindOfStranger 6 = .ok (.ireturn, 1) := by decide +kernel
theorem dX3_placeOfStranger_0 : decode cX3_placeOfStranger 0 = .ok (.iload_n 0, 1) := by decide +kernel
theorem dX3_placeOfStranger_1 : decode cX3_placeOfStranger 1 = .ok (.bipush 16, 2) := by decide +kernel
theorem dX3_placeOfStranger_3 : decode cX3_placeOfStranger 3 = .ok (.irem, 1) := by decide +kernel
theorem dX3_placeOfStranger_4 : decode cX3_placeOfStranger 4 = .ok (.ireturn, 1) := by decide +kernel
theorem dX3_howManyFit_0 : decode cX3_howManyFit 0 = .ok (.iconst 0, 1) := by decide +kernel
theorem dX3_howManyFit_1 : decode cX3_howManyFit 1 = .ok (.istore_n 1, 1) := by decide +kernel
theorem dX3_howManyFit_2 : decode cX3_howManyFit 2 = .ok (.iconst 0, 1) := by decide +kernel
theorem dX3_howManyFit_3 : decode cX3_howManyFit 3 = .ok (.istore_n 2, 1) := by decide +kernel
theorem dX3_howManyFit_4 : decode cX3_howManyFit 4 = .ok (.iload_n 2, 1) := by decide +kernel
theorem dX3_howManyFit_5 : decode cX3_howManyFit 5 = .ok (.bipush 80, 2) := by decide +kernel
theorem dX3_howManyFit_7 : decode cX3_howManyFit 7 = .ok (.if_icmp .ge 20, 3) := by decide +kernel
theorem dX3_howManyFit_10 : decode cX3_howManyFit 10 = .ok (.aload_n 0, 1) := by decide +kernel
theorem dX3_howManyFit_11 : decode cX3_howManyFit 11 = .ok (.iload_n 2, 1) := by decide +kernel
theorem dX3_howManyFit_12 : decode cX3_howManyFit 12 = .ok (.invokevirtual 173, 3) := by decide +kernel
theorem dX3_howManyFit_15 : decode cX3_howManyFit 15 = .ok (.ifCond .ne 6, 3) := by decide +kernel
theorem dX3_howManyFit_18 : decode cX3_howManyFit 18 = .ok (.iinc 1 1, 3) := by decide +kernel
theorem dX3_howManyFit_21 : decode cX3_howManyFit 21 = .ok (.iinc 2 1, 3) := by decide +kernel
theorem dX3_howManyFit_24 : decode cX3_howManyFit 24 = .ok (.goto (-20), 3) := by decide +kernel
theorem dX3_howManyFit_27 : decode cX3_howManyFit 27 = .ok (.iload_n 1, 1) := by decide +kernel
theorem dX3_howManyFit_28 : decode cX3_howManyFit 28 = .ok (.ireturn, 1) := by decide +kernel
theorem dX3_leastThatFits_0 : decode cX3_leastThatFits 0 = .ok (.iconst 0, 1) := by decide +kernel
theorem dX3_leastThatFits_1 : decode cX3_leastThatFits 1 = .ok (.istore_n 1, 1) := by decide +kernel
theorem dX3_leastThatFits_2 : decode cX3_leastThatFits 2 = .ok (.iload_n 1, 1) := by decide +kernel
theorem dX3_leastThatFits_3 : decode cX3_leastThatFits 3 = .ok (.bipush 80, 2) := by decide +kernel
theorem dX3_leastThatFits_5 : decode cX3_leastThatFits 5 = .ok (.if_icmp .ge 19, 3) := by decide +kernel
theorem dX3_leastThatFits_8 : decode cX3_leastThatFits 8 = .ok (.aload_n 0, 1) := by decide +kernel
theorem dX3_leastThatFits_9 : decode cX3_leastThatFits 9 = .ok (.iload_n 1, 1) := by decide +kernel
theorem dX3_leastThatFits_10 : decode cX3_leastThatFits 10 = .ok (.invokevirtual 173, 3) := by decide +kernel
theorem dX3_leastThatFits_13 : decode cX3_leastThatFits 13 = .ok (.ifCond .ne 5, 3) := by decide +kernel
theorem dX3_leastThatFits_16 : decode cX3_leastThatFits 16 = .ok (.iload_n 1, 1) := by decide +kernel
theorem dX3_leastThatFits_17 : decode cX3_leastThatFits 17 = .ok (.ireturn, 1) := by decide +kernel
theorem dX3_leastThatFits_18 : decode cX3_leastThatFits 18 = .ok (.iinc 1 1, 3) := by decide +kernel
theorem dX3_leastThatFits_21 : decode cX3_leastThatFits 21 = .ok (.goto (-19), 3) := by decide +kernel
theorem dX3_leastThatFits_24 : decode cX3_leastThatFits 24 = .ok (.bipush (-3), 2) := by decide +kernel
theorem dX3_leastThatFits_26 : decode cX3_leastThatFits 26 = .ok (.ireturn, 1) := by decide +kernel
theorem dX3_leastLiar_0 : decode cX3_leastLiar 0 = .ok (.iconst 0, 1) := by decide +kernel
theorem dX3_leastLiar_1 : decode cX3_leastLiar 1 = .ok (.istore_n 1, 1) := by decide +kernel
theorem dX3_leastLiar_2 : decode cX3_leastLiar 2 = .ok (.iconst 0, 1) := by decide +kernel
theorem dX3_leastLiar_3 : decode cX3_leastLiar 3 = .ok (.istore_n 2, 1) := by decide +kernel
theorem dX3_leastLiar_4 : decode cX3_leastLiar 4 = .ok (.iload_n 2, 1) := by decide +kernel
theorem dX3_leastLiar_5 : decode cX3_leastLiar 5 = .ok (.bipush 80, 2) := by decide +kernel
theorem dX3_leastLiar_7 : decode cX3_leastLiar 7 = .ok (.if_icmp .ge 34, 3) := by decide +kernel
theorem dX3_leastLiar_10 : decode cX3_leastLiar 10 = .ok (.aload_n 0, 1) := by decide +kernel
theorem dX3_leastLiar_11 : decode cX3_leastLiar 11 = .ok (.iload_n 2, 1) := by decide +kernel
theorem dX3_leastLiar_12 : decode cX3_leastLiar 12 = .ok (.invokevirtual 173, 3) := by decide +kernel
theorem dX3_leastLiar_15 : decode cX3_leastLiar 15 = .ok (.istore_n 3, 1) := by decide +kernel
theorem dX3_leastLiar_16 : decode cX3_leastLiar 16 = .ok (.iload_n 3, 1) := by decide +kernel
theorem dX3_leastLiar_17 : decode cX3_leastLiar 17 = .ok (.ifCond .ne 6, 3) := by decide +kernel
theorem dX3_leastLiar_20 : decode cX3_leastLiar 20 = .ok (.bipush (-3), 2) := by decide +kernel
theorem dX3_leastLiar_22 : decode cX3_leastLiar 22 = .ok (.ireturn, 1) := by decide +kernel
theorem dX3_leastLiar_23 : decode cX3_leastLiar 23 = .ok (.iload_n 3, 1) := by decide +kernel
theorem dX3_leastLiar_24 : decode cX3_leastLiar 24 = .ok (.invokestatic 176, 3) := by decide +kernel
theorem dX3_leastLiar_27 : decode cX3_leastLiar 27 = .ok (.iconst 1, 1) := by decide +kernel
theorem dX3_leastLiar_28 : decode cX3_leastLiar 28 = .ok (.if_icmp .ne 7, 3) := by decide +kernel
theorem dX3_leastLiar_31 : decode cX3_leastLiar 31 = .ok (.iload_n 1, 1) := by decide +kernel
theorem dX3_leastLiar_32 : decode cX3_leastLiar 32 = .ok (.iload_n 3, 1) := by decide +kernel
theorem dX3_leastLiar_33 : decode cX3_leastLiar 33 = .ok (.ior, 1) := by decide +kernel
theorem dX3_leastLiar_34 : decode cX3_leastLiar 34 = .ok (.istore_n 1, 1) := by decide +kernel
theorem dX3_leastLiar_35 : decode cX3_leastLiar 35 = .ok (.iinc 2 1, 3) := by decide +kernel
theorem dX3_leastLiar_38 : decode cX3_leastLiar 38 = .ok (.goto (-34), 3) := by decide +kernel
theorem dX3_leastLiar_41 : decode cX3_leastLiar 41 = .ok (.iload_n 1, 1) := by decide +kernel
theorem dX3_leastLiar_42 : decode cX3_leastLiar 42 = .ok (.invokestatic 181, 3) := by decide +kernel
theorem dX3_leastLiar_45 : decode cX3_leastLiar 45 = .ok (.ireturn, 1) := by decide +kernel
theorem dX3_brokenBy_0 : decode cX3_brokenBy 0 = .ok (.aload_n 0, 1) := by decide +kernel
theorem dX3_brokenBy_1 : decode cX3_brokenBy 1 = .ok (.getfield 37, 3) := by decide +kernel
theorem dX3_brokenBy_4 : decode cX3_brokenBy 4 = .ok (.getfield 184, 3) := by decide +kernel
theorem dX3_brokenBy_7 : decode cX3_brokenBy 7 = .ok (.iload_n 1, 1) := by decide +kernel
theorem dX3_brokenBy_8 : decode cX3_brokenBy 8 = .ok (.invokestatic 188, 3) := by decide +kernel
theorem dX3_brokenBy_11 : decode cX3_brokenBy 11 = .ok (.aaload, 1) := by decide +kernel
theorem dX3_brokenBy_12 : decode cX3_brokenBy 12 = .ok (.astore_n 2, 1) := by decide +kernel
theorem dX3_brokenBy_13 : decode cX3_brokenBy 13 = .ok (.iload_n 1, 1) := by decide +kernel
theorem dX3_brokenBy_14 : decode cX3_brokenBy 14 = .ok (.invokestatic 191, 3) := by decide +kernel
theorem dX3_brokenBy_17 : decode cX3_brokenBy 17 = .ok (.istore_n 3, 1) := by decide +kernel
theorem dX3_brokenBy_18 : decode cX3_brokenBy 18 = .ok (.iconst 0, 1) := by decide +kernel
theorem dX3_brokenBy_19 : decode cX3_brokenBy 19 = .ok (.istore 4, 2) := by decide +kernel
theorem dX3_brokenBy_21 : decode cX3_brokenBy 21 = .ok (.iconst 0, 1) := by decide +kernel
theorem dX3_brokenBy_22 : decode cX3_brokenBy 22 = .ok (.istore 5, 2) := by decide +kernel
theorem dX3_brokenBy_24 : decode cX3_brokenBy 24 = .ok (.iload 5, 2) := by decide +kernel
theorem dX3_brokenBy_26 : decode cX3_brokenBy 26 = .ok (.bipush 16, 2) := by decide +kernel
theorem dX3_brokenBy_28 : decode cX3_brokenBy 28 = .ok (.if_icmp .ge 40, 3) := by decide +kernel
theorem dX3_brokenBy_31 : decode cX3_brokenBy 31 = .ok (.iload 4, 2) := by decide +kernel
theorem dX3_brokenBy_33 : decode cX3_brokenBy 33 = .ok (.aload_n 0, 1) := by decide +kernel
theorem dX3_brokenBy_34 : decode cX3_brokenBy 34 = .ok (.iload 5, 2) := by decide +kernel
theorem dX3_brokenBy_36 : decode cX3_brokenBy 36 = .ok (.iload_n 3, 1) := by decide +kernel
theorem dX3_brokenBy_37 : decode cX3_brokenBy 37 = .ok (.invokevirtual 194, 3) := by decide +kernel
theorem dX3_brokenBy_40 : decode cX3_brokenBy 40 = .ok (.ior, 1) := by decide +kernel
theorem dX3_brokenBy_41 : decode cX3_brokenBy 41 = .ok (.istore 4, 2) := by decide +kernel
theorem dX3_brokenBy_43 : decode cX3_brokenBy 43 = .ok (.aload_n 0, 1) := by decide +kernel
theorem dX3_brokenBy_44 : decode cX3_brokenBy 44 = .ok (.getfield 37, 3) := by decide +kernel
theorem dX3_brokenBy_47 : decode cX3_brokenBy 47 = .ok (.iload_n 3, 1) := by decide +kernel
theorem dX3_brokenBy_48 : decode cX3_brokenBy 48 = .ok (.aload_n 2, 1) := by decide +kernel
theorem dX3_brokenBy_49 : decode cX3_brokenBy 49 = .ok (.bipush 6, 2) := by decide +kernel
theorem dX3_brokenBy_51 : decode cX3_brokenBy 51 = .ok (.iload 5, 2) := by decide +kernel
theorem dX3_brokenBy_53 : decode cX3_brokenBy 53 = .ok (.invokevirtual 197, 3) := by decide +kernel
theorem dX3_brokenBy_56 : decode cX3_brokenBy 56 = .ok (.iload 5, 2) := by decide +kernel
theorem dX3_brokenBy_58 : decode cX3_brokenBy 58 = .ok (.invokevirtual 202, 3) := by decide +kernel
theorem dX3_brokenBy_61 : decode cX3_brokenBy 61 = .ok (.istore_n 3, 1) := by decide +kernel
theorem dX3_brokenBy_62 : decode cX3_brokenBy 62 = .ok (.iinc 5 1, 3) := by decide +kernel
theorem dX3_brokenBy_65 : decode cX3_brokenBy 65 = .ok (.goto (-41), 3) := by decide +kernel
theorem dX3_brokenBy_68 : decode cX3_brokenBy 68 = .ok (.iload 4, 2) := by decide +kernel
theorem dX3_brokenBy_70 : decode cX3_brokenBy 70 = .ok (.ireturn, 1) := by decide +kernel
theorem dX3_brokenAt_0 : decode cX3_brokenAt 0 = .ok (.iconst 0, 1) := by decide +kernel
theorem dX3_brokenAt_1 : decode cX3_brokenAt 1 = .ok (.istore_n 3, 1) := by decide +kernel
theorem dX3_brokenAt_2 : decode cX3_brokenAt 2 = .ok (.iconst 0, 1) := by decide +kernel
theorem dX3_brokenAt_3 : decode cX3_brokenAt 3 = .ok (.istore 4, 2) := by decide +kernel
theorem dX3_brokenAt_5 : decode cX3_brokenAt 5 = .ok (.iload 4, 2) := by decide +kernel
theorem dX3_brokenAt_7 : decode cX3_brokenAt 7 = .ok (.aload_n 0, 1) := by decide +kernel
theorem dX3_brokenAt_8 : decode cX3_brokenAt 8 = .ok (.getfield 37, 3) := by decide +kernel
theorem dX3_brokenAt_11 : decode cX3_brokenAt 11 = .ok (.getfield 205, 3) := by decide +kernel
theorem dX3_brokenAt_14 : decode cX3_brokenAt 14 = .ok (.if_icmp .ge 57, 3) := by decide +kernel
theorem dX3_brokenAt_17 : decode cX3_brokenAt 17 = .ok (.aload_n 0, 1) := by decide +kernel
theorem dX3_brokenAt_18 : decode cX3_brokenAt 18 = .ok (.getfield 37, 3) := by decide +kernel
theorem dX3_brokenAt_21 : decode cX3_brokenAt 21 = .ok (.getfield 208, 3) := by decide +kernel
theorem dX3_brokenAt_24 : decode cX3_brokenAt 24 = .ok (.iload 4, 2) := by decide +kernel
theorem dX3_brokenAt_26 : decode cX3_brokenAt 26 = .ok (.iaload, 1) := by decide +kernel
theorem dX3_brokenAt_27 : decode cX3_brokenAt 27 = .ok (.iload_n 1, 1) := by decide +kernel
theorem dX3_brokenAt_28 : decode cX3_brokenAt 28 = .ok (.if_icmp .ne 37, 3) := by decide +kernel
theorem dX3_brokenAt_31 : decode cX3_brokenAt 31 = .ok (.iload_n 2, 1) := by decide +kernel
theorem dX3_brokenAt_32 : decode cX3_brokenAt 32 = .ok (.aload_n 0, 1) := by decide +kernel
theorem dX3_brokenAt_33 : decode cX3_brokenAt 33 = .ok (.getfield 37, 3) := by decide +kernel
theorem dX3_brokenAt_36 : decode cX3_brokenAt 36 = .ok (.getfield 211, 3) := by decide +kernel
theorem dX3_brokenAt_39 : decode cX3_brokenAt 39 = .ok (.iload 4, 2) := by decide +kernel
theorem dX3_brokenAt_41 : decode cX3_brokenAt 41 = .ok (.iaload, 1) := by decide +kernel
theorem dX3_brokenAt_42 : decode cX3_brokenAt 42 = .ok (.aload_n 0, 1) := by decide +kernel
theorem dX3_brokenAt_43 : decode cX3_brokenAt 43 = .ok (.getfield 37, 3) := by decide +kernel
theorem dX3_brokenAt_46 : decode cX3_brokenAt 46 = .ok (.getfield 214, 3) := by decide +kernel
theorem dX3_brokenAt_49 : decode cX3_brokenAt 49 = .ok (.iload 4, 2) := by decide +kernel
theorem dX3_brokenAt_51 : decode cX3_brokenAt 51 = .ok (.iaload, 1) := by decide +kernel
theorem dX3_brokenAt_52 : decode cX3_brokenAt 52 = .ok (.invokestatic 217, 3) := by decide +kernel
theorem dX3_brokenAt_55 : decode cX3_brokenAt 55 = .ok (.ifCond .ne 10, 3) := by decide +kernel
theorem dX3_brokenAt_58 : decode cX3_brokenAt 58 = .ok (.iload_n 3, 1) := by decide +kernel
theorem dX3_brokenAt_59 : decode cX3_brokenAt 59 = .ok (.iconst 1, 1) := by decide +kernel
theorem dX3_brokenAt_60 : decode cX3_brokenAt 60 = .ok (.iload 4, 2) := by decide +kernel
theorem dX3_brokenAt_62 : decode cX3_brokenAt 62 = .ok (.ishl, 1) := by decide +kernel
theorem dX3_brokenAt_63 : decode cX3_brokenAt 63 = .ok (.ior, 1) := by decide +kernel
theorem dX3_brokenAt_64 : decode cX3_brokenAt 64 = .ok (.istore_n 3, 1) := by decide +kernel
theorem dX3_brokenAt_65 : decode cX3_brokenAt 65 = .ok (.iinc 4 1, 3) := by decide +kernel
theorem dX3_brokenAt_68 : decode cX3_brokenAt 68 = .ok (.goto (-63), 3) := by decide +kernel
theorem dX3_brokenAt_71 : decode cX3_brokenAt 71 = .ok (.iload_n 3, 1) := by decide +kernel
theorem dX3_brokenAt_72 : decode cX3_brokenAt 72 = .ok (.ireturn, 1) := by decide +kernel
theorem dX3_timesWorth_0 : decode cX3_timesWorth 0 = .ok (.aload_n 0, 1) := by decide +kernel
theorem dX3_timesWorth_1 : decode cX3_timesWorth 1 = .ok (.getfield 37, 3) := by decide +kernel
theorem dX3_timesWorth_4 : decode cX3_timesWorth 4 = .ok (.getfield 221, 3) := by decide +kernel
theorem dX3_timesWorth_7 : decode cX3_timesWorth 7 = .ok (.istore_n 3, 1) := by decide +kernel
theorem dX3_timesWorth_8 : decode cX3_timesWorth 8 = .ok (.aload_n 0, 1) := by decide +kernel
theorem dX3_timesWorth_9 : decode cX3_timesWorth 9 = .ok (.invokevirtual 48, 3) := by decide +kernel
theorem dX3_timesWorth_12 : decode cX3_timesWorth 12 = .ok (.iconst 0, 1) := by decide +kernel
theorem dX3_timesWorth_13 : decode cX3_timesWorth 13 = .ok (.istore 4, 2) := by decide +kernel
theorem dX3_timesWorth_15 : decode cX3_timesWorth 15 = .ok (.iconst 0, 1) := by decide +kernel
theorem dX3_timesWorth_16 : decode cX3_timesWorth 16 = .ok (.istore 5, 2) := by decide +kernel
theorem dX3_timesWorth_18 : decode cX3_timesWorth 18 = .ok (.iload 5, 2) := by decide +kernel
theorem dX3_timesWorth_20 : decode cX3_timesWorth 20 = .ok (.iload_n 1, 1) := by decide +kernel
theorem dX3_timesWorth_21 : decode cX3_timesWorth 21 = .ok (.if_icmp .ge 24, 3) := by decide +kernel
theorem dX3_timesWorth_24 : decode cX3_timesWorth 24 = .ok (.aload_n 0, 1) := by decide +kernel
theorem dX3_timesWorth_25 : decode cX3_timesWorth 25 = .ok (.invokevirtual 224, 3) := by decide +kernel
theorem dX3_timesWorth_28 : decode cX3_timesWorth 28 = .ok (.iload_n 2, 1) := by decide +kernel
theorem dX3_timesWorth_29 : decode cX3_timesWorth 29 = .ok (.if_icmp .lt 6, 3) := by decide +kernel
theorem dX3_timesWorth_32 : decode cX3_timesWorth 32 = .ok (.iinc 4 1, 3) := by decide +kernel
theorem dX3_timesWorth_35 : decode cX3_timesWorth 35 = .ok (.aload_n 0, 1) := by decide +kernel
theorem dX3_timesWorth_36 : decode cX3_timesWorth 36 = .ok (.invokevirtual 63, 3) := by decide +kernel
theorem dX3_timesWorth_39 : decode cX3_timesWorth 39 = .ok (.iinc 5 1, 3) := by decide +kernel
theorem dX3_timesWorth_42 : decode cX3_timesWorth 42 = .ok (.goto (-24), 3) := by decide +kernel
theorem dX3_timesWorth_45 : decode cX3_timesWorth 45 = .ok (.aload_n 0, 1) := by decide +kernel
theorem dX3_timesWorth_46 : decode cX3_timesWorth 46 = .ok (.getfield 37, 3) := by decide +kernel
theorem dX3_timesWorth_49 : decode cX3_timesWorth 49 = .ok (.iload_n 3, 1) := by decide +kernel
theorem dX3_timesWorth_50 : decode cX3_timesWorth 50 = .ok (.putfield 221, 3) := by decide +kernel
theorem dX3_timesWorth_53 : decode cX3_timesWorth 53 = .ok (.iload 4, 2) := by decide +kernel
theorem dX3_timesWorth_55 : decode cX3_timesWorth 55 = .ok (.ireturn, 1) := by decide +kernel
theorem dX3_worthByLot_0 : decode cX3_worthByLot 0 = .ok (.iconst 0, 1) := by decide +kernel
theorem dX3_worthByLot_1 : decode cX3_worthByLot 1 = .ok (.istore_n 1, 1) := by decide +kernel
theorem dX3_worthByLot_2 : decode cX3_worthByLot 2 = .ok (.iconst 0, 1) := by decide +kernel
theorem dX3_worthByLot_3 : decode cX3_worthByLot 3 = .ok (.istore_n 2, 1) := by decide +kernel
theorem dX3_worthByLot_4 : decode cX3_worthByLot 4 = .ok (.iload_n 2, 1) := by decide +kernel
theorem dX3_worthByLot_5 : decode cX3_worthByLot 5 = .ok (.bipush 16, 2) := by decide +kernel
theorem dX3_worthByLot_7 : decode cX3_worthByLot 7 = .ok (.if_icmp .ge 36, 3) := by decide +kernel
theorem dX3_worthByLot_10 : decode cX3_worthByLot 10 = .ok (.aload_n 0, 1) := by decide +kernel
theorem dX3_worthByLot_11 : decode cX3_worthByLot 11 = .ok (.getfield 37, 3) := by decide +kernel
theorem dX3_worthByLot_14 : decode cX3_worthByLot 14 = .ok (.invokevirtual 51, 3) := by decide +kernel
theorem dX3_worthByLot_17 : decode cX3_worthByLot 17 = .ok (.ifCond .ne 26, 3) := by decide +kernel
theorem dX3_worthByLot_20 : decode cX3_worthByLot 20 = .ok (.iload_n 1, 1) := by decide +kernel
theorem dX3_worthByLot_21 : decode cX3_worthByLot 21 = .ok (.aload_n 0, 1) := by decide +kernel
theorem dX3_worthByLot_22 : decode cX3_worthByLot 22 = .ok (.getfield 37, 3) := by decide +kernel
theorem dX3_worthByLot_25 : decode cX3_worthByLot 25 = .ok (.aload_n 0, 1) := by decide +kernel
theorem dX3_worthByLot_26 : decode cX3_worthByLot 26 = .ok (.getfield 37, 3) := by decide +kernel
theorem dX3_worthByLot_29 : decode cX3_worthByLot 29 = .ok (.invokevirtual 227, 3) := by decide +kernel
theorem dX3_worthByLot_32 : decode cX3_worthByLot 32 = .ok (.invokevirtual 59, 3) := by decide +kernel
theorem dX3_worthByLot_35 : decode cX3_worthByLot 35 = .ok (.iadd, 1) := by decide +kernel
theorem dX3_worthByLot_36 : decode cX3_worthByLot 36 = .ok (.istore_n 1, 1) := by decide +kernel
theorem dX3_worthByLot_37 : decode cX3_worthByLot 37 = .ok (.iinc 2 1, 3) := by decide +kernel
theorem dX3_worthByLot_40 : decode cX3_worthByLot 40 = .ok (.goto (-36), 3) := by decide +kernel
theorem dX3_worthByLot_43 : decode cX3_worthByLot 43 = .ok (.iload_n 1, 1) := by decide +kernel
theorem dX3_worthByLot_44 : decode cX3_worthByLot 44 = .ok (.ireturn, 1) := by decide +kernel
theorem dX3_hasRow_0 : decode cX3_hasRow 0 = .ok (.iload_n 1, 1) := by decide +kernel
theorem dX3_hasRow_1 : decode cX3_hasRow 1 = .ok (.ifCond .lt 15, 3) := by decide +kernel
theorem dX3_hasRow_4 : decode cX3_hasRow 4 = .ok (.iload_n 1, 1) := by decide +kernel
theorem dX3_hasRow_5 : decode cX3_hasRow 5 = .ok (.aload_n 0, 1) := by decide +kernel
theorem dX3_hasRow_6 : decode cX3_hasRow 6 = .ok (.getfield 230, 3) := by decide +kernel
theorem dX3_hasRow_9 : decode cX3_hasRow 9 = .ok (.if_icmp .ge 7, 3) := by decide +kernel
theorem dX3_hasRow_12 : decode cX3_hasRow 12 = .ok (.iconst 1, 1) := by decide +kernel
theorem dX3_hasRow_13 : decode cX3_hasRow 13 = .ok (.goto 4, 3) := by decide +kernel
theorem dX3_hasRow_16 : decode cX3_hasRow 16 = .ok (.iconst 0, 1) := by decide +kernel
theorem dX3_hasRow_17 : decode cX3_hasRow 17 = .ok (.ireturn, 1) := by decide +kernel
theorem dX3_writeRows_0 : decode cX3_writeRows 0 = .ok (.aload_n 0, 1) := by decide +kernel
theorem dX3_writeRows_1 : decode cX3_writeRows 1 = .ok (.invokevirtual 48, 3) := by decide +kernel
theorem dX3_writeRows_4 : decode cX3_writeRows 4 = .ok (.iconst 0, 1) := by decide +kernel
theorem dX3_writeRows_5 : decode cX3_writeRows 5 = .ok (.istore_n 1, 1) := by decide +kernel
theorem dX3_writeRows_6 : decode cX3_writeRows 6 = .ok (.iload_n 1, 1) := by decide +kernel
theorem dX3_writeRows_7 : decode cX3_writeRows 7 = .ok (.aload_n 0, 1) := by decide +kernel
theorem dX3_writeRows_8 : decode cX3_writeRows 8 = .ok (.getfield 126, 3) := by decide +kernel
theorem dX3_writeRows_11 : decode cX3_writeRows 11 = .ok (.if_icmp .ge 59, 3) := by decide +kernel
theorem dX3_writeRows_14 : decode cX3_writeRows 14 = .ok (.aload_n 0, 1) := by decide +kernel
theorem dX3_writeRows_15 : decode cX3_writeRows 15 = .ok (.getfield 34, 3) := by decide +kernel
theorem dX3_writeRows_18 : decode cX3_writeRows 18 = .ok (.iload_n 1, 1) := by decide +kernel
theorem dX3_writeRows_19 : decode cX3_writeRows 19 = .ok (.aaload, 1) := by decide +kernel
theorem dX3_writeRows_20 : decode cX3_writeRows 20 = .ok (.iconst 0, 1) := by decide +kernel
theorem dX3_writeRows_21 : decode cX3_writeRows 21 = .ok (.aload_n 0, 1) := by decide +kernel
theorem dX3_writeRows_22 : decode cX3_writeRows 22 = .ok (.getfield 28, 3) := by decide +kernel
theorem dX3_writeRows_25 : decode cX3_writeRows 25 = .ok (.iload_n 1, 1) := by decide +kernel
theorem dX3_writeRows_26 : decode cX3_writeRows 26 = .ok (.iaload, 1) := by decide +kernel
theorem dX3_writeRows_27 : decode cX3_writeRows 27 = .ok (.iastore, 1) := by decide +kernel
theorem dX3_writeRows_28 : decode cX3_writeRows 28 = .ok (.aload_n 0, 1) := by decide +kernel
theorem dX3_writeRows_29 : decode cX3_writeRows 29 = .ok (.getfield 34, 3) := by decide +kernel
theorem dX3_writeRows_32 : decode cX3_writeRows 32 = .ok (.iload_n 1, 1) := by decide +kernel
theorem dX3_writeRows_33 : decode cX3_writeRows 33 = .ok (.aaload, 1) := by decide +kernel
theorem dX3_writeRows_34 : decode cX3_writeRows 34 = .ok (.iconst 1, 1) := by decide +kernel
theorem dX3_writeRows_35 : decode cX3_writeRows 35 = .ok (.aload_n 0, 1) := by decide +kernel
theorem dX3_writeRows_36 : decode cX3_writeRows 36 = .ok (.getfield 37, 3) := by decide +kernel
theorem dX3_writeRows_39 : decode cX3_writeRows 39 = .ok (.aload_n 0, 1) := by decide +kernel
theorem dX3_writeRows_40 : decode cX3_writeRows 40 = .ok (.getfield 28, 3) := by decide +kernel
theorem dX3_writeRows_43 : decode cX3_writeRows 43 = .ok (.iload_n 1, 1) := by decide +kernel
theorem dX3_writeRows_44 : decode cX3_writeRows 44 = .ok (.iaload, 1) := by decide +kernel
theorem dX3_writeRows_45 : decode cX3_writeRows 45 = .ok (.invokevirtual 59, 3) := by decide +kernel
theorem dX3_writeRows_48 : decode cX3_writeRows 48 = .ok (.iastore, 1) := by decide +kernel
theorem dX3_writeRows_49 : decode cX3_writeRows 49 = .ok (.aload_n 0, 1) := by decide +kernel
theorem dX3_writeRows_50 : decode cX3_writeRows 50 = .ok (.getfield 34, 3) := by decide +kernel
theorem dX3_writeRows_53 : decode cX3_writeRows 53 = .ok (.iload_n 1, 1) := by decide +kernel
theorem dX3_writeRows_54 : decode cX3_writeRows 54 = .ok (.aaload, 1) := by decide +kernel
theorem dX3_writeRows_55 : decode cX3_writeRows 55 = .ok (.iconst 2, 1) := by decide +kernel
theorem dX3_writeRows_56 : decode cX3_writeRows 56 = .ok (.aload_n 0, 1) := by decide +kernel
theorem dX3_writeRows_57 : decode cX3_writeRows 57 = .ok (.getfield 37, 3) := by decide +kernel
theorem dX3_writeRows_60 : decode cX3_writeRows 60 = .ok (.getfield 164, 3) := by decide +kernel
theorem dX3_writeRows_63 : decode cX3_writeRows 63 = .ok (.iastore, 1) := by decide +kernel
theorem dX3_writeRows_64 : decode cX3_writeRows 64 = .ok (.iinc 1 1, 3) := by decide +kernel
theorem dX3_writeRows_67 : decode cX3_writeRows 67 = .ok (.goto (-61), 3) := by decide +kernel
theorem dX3_writeRows_70 : decode cX3_writeRows 70 = .ok (.aload_n 0, 1) := by decide +kernel
theorem dX3_writeRows_71 : decode cX3_writeRows 71 = .ok (.aload_n 0, 1) := by decide +kernel
theorem dX3_writeRows_72 : decode cX3_writeRows 72 = .ok (.getfield 126, 3) := by decide +kernel
theorem dX3_writeRows_75 : decode cX3_writeRows 75 = .ok (.putfield 230, 3) := by decide +kernel
theorem dX3_writeRows_78 : decode cX3_writeRows 78 = .ok (.aload_n 0, 1) := by decide +kernel
theorem dX3_writeRows_79 : decode cX3_writeRows 79 = .ok (.invokevirtual 63, 3) := by decide +kernel
theorem dX3_writeRows_82 : decode cX3_writeRows 82 = .ok (.aload_n 0, 1) := by decide +kernel
theorem dX3_writeRows_83 : decode cX3_writeRows 83 = .ok (.getfield 230, 3) := by decide +kernel
theorem dX3_writeRows_86 : decode cX3_writeRows 86 = .ok (.ireturn, 1) := by decide +kernel
theorem dX3_firstWrongRow_0 : decode cX3_firstWrongRow 0 = .ok (.aload_n 0, 1) := by decide +kernel
theorem dX3_firstWrongRow_1 : decode cX3_firstWrongRow 1 = .ok (.invokevirtual 48, 3) := by decide +kernel
theorem dX3_firstWrongRow_4 : decode cX3_firstWrongRow 4 = .ok (.iconst 0, 1) := by decide +kernel
theorem dX3_firstWrongRow_5 : decode cX3_firstWrongRow 5 = .ok (.istore_n 1, 1) := by decide +kernel
theorem dX3_firstWrongRow_6 : decode cX3_firstWrongRow 6 = .ok (.iconst 0, 1) := by decide +kernel
theorem dX3_firstWrongRow_7 : decode cX3_firstWrongRow 7 = .ok (.istore_n 2, 1) := by decide +kernel
theorem dX3_firstWrongRow_8 : decode cX3_firstWrongRow 8 = .ok (.iload_n 2, 1) := by decide +kernel
theorem dX3_firstWrongRow_9 : decode cX3_firstWrongRow 9 = .ok (.aload_n 0, 1) := by decide +kernel
theorem dX3_firstWrongRow_10 : decode cX3_firstWrongRow 10 = .ok (.getfield 230, 3) := by decide +kernel
theorem dX3_firstWrongRow_13 : decode cX3_firstWrongRow 13 = .ok (.if_icmp .ge 30, 3) := by decide +kernel
theorem dX3_firstWrongRow_16 : decode cX3_firstWrongRow 16 = .ok (.iload_n 1, 1) := by decide +kernel
theorem dX3_firstWrongRow_17 : decode cX3_firstWrongRow 17 = .ok (.ifCond .ne 26, 3) := by decide +kernel
theorem dX3_firstWrongRow_20 : decode cX3_firstWrongRow 20 = .ok (.aload_n 0, 1) := by decide +kernel
theorem dX3_firstWrongRow_21 : decode cX3_firstWrongRow 21 = .ok (.aload_n 0, 1) := by decide +kernel
theorem dX3_firstWrongRow_22 : decode cX3_firstWrongRow 22 = .ok (.getfield 34, 3) := by decide +kernel
theorem dX3_firstWrongRow_25 : decode cX3_firstWrongRow 25 = .ok (.iload_n 2, 1) := by decide +kernel
theorem dX3_firstWrongRow_26 : decode cX3_firstWrongRow 26 = .ok (.aaload, 1) := by decide +kernel
theorem dX3_firstWrongRow_27 : decode cX3_firstWrongRow 27 = .ok (.invokevirtual 233, 3) := by decide +kernel
theorem dX3_firstWrongRow_30 : decode cX3_firstWrongRow 30 = .ok (.ifCond .ne 7, 3) := by decide +kernel
theorem dX3_firstWrongRow_33 : decode cX3_firstWrongRow 33 = .ok (.iload_n 2, 1) := by decide +kernel
theorem dX3_firstWrongRow_34 : decode cX3_firstWrongRow 34 = .ok (.iconst 1, 1) := by decide +kernel
theorem dX3_firstWrongRow_35 : decode cX3_firstWrongRow 35 = .ok (.iadd, 1) := by decide +kernel
theorem dX3_firstWrongRow_36 : decode cX3_firstWrongRow 36 = .ok (.istore_n 1, 1) := by decide +kernel
theorem dX3_firstWrongRow_37 : decode cX3_firstWrongRow 37 = .ok (.iinc 2 1, 3) := by decide +kernel
theorem dX3_firstWrongRow_40 : decode cX3_firstWrongRow 40 = .ok (.goto (-32), 3) := by decide +kernel
theorem dX3_firstWrongRow_43 : decode cX3_firstWrongRow 43 = .ok (.aload_n 0, 1) := by decide +kernel
theorem dX3_firstWrongRow_44 : decode cX3_firstWrongRow 44 = .ok (.invokevirtual 63, 3) := by decide +kernel
theorem dX3_firstWrongRow_47 : decode cX3_firstWrongRow 47 = .ok (.iload_n 1, 1) := by decide +kernel
theorem dX3_firstWrongRow_48 : decode cX3_firstWrongRow 48 = .ok (.ireturn, 1) := by decide +kernel
theorem dX3_isRight_0 : decode cX3_isRight 0 = .ok (.aload_n 1, 1) := by decide +kernel
theorem dX3_isRight_1 : decode cX3_isRight 1 = .ok (.arraylength, 1) := by decide +kernel
theorem dX3_isRight_2 : decode cX3_isRight 2 = .ok (.iconst 3, 1) := by decide +kernel
theorem dX3_isRight_3 : decode cX3_isRight 3 = .ok (.if_icmp .lt 26, 3) := by decide +kernel
theorem dX3_isRight_6 : decode cX3_isRight 6 = .ok (.aload_n 0, 1) := by decide +kernel
theorem dX3_isRight_7 : decode cX3_isRight 7 = .ok (.getfield 37, 3) := by decide +kernel
theorem dX3_isRight_10 : decode cX3_isRight 10 = .ok (.invokevirtual 51, 3) := by decide +kernel
theorem dX3_isRight_13 : decode cX3_isRight 13 = .ok (.ifCond .ne 16, 3) := by decide +kernel
theorem dX3_isRight_16 : decode cX3_isRight 16 = .ok (.aload_n 0, 1) := by decide +kernel
theorem dX3_isRight_17 : decode cX3_isRight 17 = .ok (.getfield 37, 3) := by decide +kernel
theorem dX3_isRight_20 : decode cX3_isRight 20 = .ok (.aload_n 1, 1) := by decide +kernel
theorem dX3_isRight_21 : decode cX3_isRight 21 = .ok (.iconst 0, 1) := by decide +kernel
theorem dX3_isRight_22 : decode cX3_isRight 22 = .ok (.iaload, 1) := by decide +kernel
theorem dX3_isRight_23 : decode cX3_isRight 23 = .ok (.invokevirtual 237, 3) := by decide +kernel
theorem dX3_isRight_26 : decode cX3_isRight 26 = .ok (.ifCond .ne 5, 3) := by decide +kernel
theorem dX3_isRight_29 : decode cX3_isRight 29 = .ok (.iconst 0, 1) := by decide +kernel
theorem dX3_isRight_30 : decode cX3_isRight 30 = .ok (.ireturn, 1) := by decide +kernel
theorem dX3_isRight_31 : decode cX3_isRight 31 = .ok (.aload_n 0, 1) := by decide +kernel
theorem dX3_isRight_32 : decode cX3_isRight 32 = .ok (.getfield 37, 3) := by decide +kernel
theorem dX3_isRight_35 : decode cX3_isRight 35 = .ok (.aload_n 1, 1) := by decide +kernel
theorem dX3_isRight_36 : decode cX3_isRight 36 = .ok (.iconst 0, 1) := by decide +kernel
theorem dX3_isRight_37 : decode cX3_isRight 37 = .ok (.iaload, 1) := by decide +kernel
theorem dX3_isRight_38 : decode cX3_isRight 38 = .ok (.invokevirtual 59, 3) := by decide +kernel
theorem dX3_isRight_41 : decode cX3_isRight 41 = .ok (.aload_n 1, 1) := by decide +kernel
theorem dX3_isRight_42 : decode cX3_isRight 42 = .ok (.iconst 1, 1) := by decide +kernel
theorem dX3_isRight_43 : decode cX3_isRight 43 = .ok (.iaload, 1) := by decide +kernel
theorem dX3_isRight_44 : decode cX3_isRight 44 = .ok (.if_icmp .ne 20, 3) := by decide +kernel
theorem dX3_isRight_47 : decode cX3_isRight 47 = .ok (.aload_n 0, 1) := by decide +kernel
theorem dX3_isRight_48 : decode cX3_isRight 48 = .ok (.getfield 37, 3) := by decide +kernel
theorem dX3_isRight_51 : decode cX3_isRight 51 = .ok (.getfield 164, 3) := by decide +kernel
theorem dX3_isRight_54 : decode cX3_isRight 54 = .ok (.aload_n 1, 1) := by decide +kernel
theorem dX3_isRight_55 : decode cX3_isRight 55 = .ok (.iconst 2, 1) := by decide +kernel
theorem dX3_isRight_56 : decode cX3_isRight 56 = .ok (.iaload, 1) := by decide +kernel
theorem dX3_isRight_57 : decode cX3_isRight 57 = .ok (.if_icmp .ne 7, 3) := by decide +kernel
theorem dX3_isRight_60 : decode cX3_isRight 60 = .ok (.iconst 1, 1) := by decide +kernel
theorem dX3_isRight_61 : decode cX3_isRight 61 = .ok (.goto 4, 3) := by decide +kernel
theorem dX3_isRight_64 : decode cX3_isRight 64 = .ok (.iconst 0, 1) := by decide +kernel
theorem dX3_isRight_65 : decode cX3_isRight 65 = .ok (.ireturn, 1) := by decide +kernel
theorem dX4_init_0 : decode cX4_init 0 = .ok (.aload_n 0, 1) := by decide +kernel
theorem dX4_init_1 : decode cX4_init 1 = .ok (.invokespecial 1, 3) := by decide +kernel
theorem dX4_init_4 : decode cX4_init 4 = .ok (.return_, 1) := by decide +kernel
theorem dX4_drifts_0 : decode cX4_drifts 0 = .ok (.iload_n 2, 1) := by decide +kernel
theorem dX4_drifts_1 : decode cX4_drifts 1 = .ok (.iconst 1, 1) := by decide +kernel
theorem dX4_drifts_2 : decode cX4_drifts 2 = .ok (.iand, 1) := by decide +kernel
theorem dX4_drifts_3 : decode cX4_drifts 3 = .ok (.iconst 1, 1) := by decide +kernel
theorem dX4_drifts_4 : decode cX4_drifts 4 = .ok (.if_icmp .ne 7, 3) := by decide +kernel
theorem dX4_drifts_7 : decode cX4_drifts 7 = .ok (.iconst 0, 1) := by decide +kernel
theorem dX4_drifts_8 : decode cX4_drifts 8 = .ok (.goto 9, 3) := by decide +kernel
theorem dX4_drifts_11 : decode cX4_drifts 11 = .ok (.aload_n 0, 1) := by decide +kernel
theorem dX4_drifts_12 : decode cX4_drifts 12 = .ok (.iload_n 1, 1) := by decide +kernel
theorem dX4_drifts_13 : decode cX4_drifts 13 = .ok (.iload_n 2, 1) := by decide +kernel
theorem dX4_drifts_14 : decode cX4_drifts 14 = .ok (.invokespecial 7, 3) := by decide +kernel
theorem dX4_drifts_17 : decode cX4_drifts 17 = .ok (.ireturn, 1) := by decide +kernel
theorem dX4_price_0 : decode cX4_price 0 = .ok (.aload_n 0, 1) := by decide +kernel
theorem dX4_price_1 : decode cX4_price 1 = .ok (.iload_n 1, 1) := by decide +kernel
theorem dX4_price_2 : decode cX4_price 2 = .ok (.invokespecial 11, 3) := by decide +kernel
theorem dX4_price_5 : decode cX4_price 5 = .ok (.iconst 5, 1) := by decide +kernel
theorem dX4_price_6 : decode cX4_price 6 = .ok (.iadd, 1) := by decide +kernel
theorem dX4_price_7 : decode cX4_price 7 = .ok (.ireturn, 1) := by decide +kernel
theorem dX4_hums_0 : decode cX4_hums 0 = .ok (.aload_n 1, 1) := by decide +kernel
theorem dX4_hums_1 : decode cX4_hums 1 = .ok (.bipush 50, 2) := by decide +kernel
theorem dX4_hums_3 : decode cX4_hums 3 = .ok (.invokevirtual 15, 3) := by decide +kernel
theorem dX4_hums_6 : decode cX4_hums 6 = .ok (.aload_n 0, 1) := by decide +kernel
theorem dX4_hums_7 : decode cX4_hums 7 = .ok (.aload_n 1, 1) := by decide +kernel
theorem dX4_hums_8 : decode cX4_hums 8 = .ok (.iload_n 2, 1) := by decide +kernel
theorem dX4_hums_9 : decode cX4_hums 9 = .ok (.iconst 1, 1) := by decide +kernel
theorem dX4_hums_10 : decode cX4_hums 10 = .ok (.isub, 1) := by decide +kernel
theorem dX4_hums_11 : decode cX4_hums 11 = .ok (.invokespecial 21, 3) := by decide +kernel
theorem dX4_hums_14 : decode cX4_hums 14 = .ok (.ireturn, 1) := by decide +kernel
theorem dX4_rings_0 : decode cX4_rings 0 = .ok (.aload_n 1, 1) := by decide +kernel
theorem dX4_rings_1 : decode cX4_rings 1 = .ok (.bipush 51, 2) := by decide +kernel
theorem dX4_rings_3 : decode cX4_rings 3 = .ok (.invokevirtual 15, 3) := by decide +kernel
theorem dX4_rings_6 : decode cX4_rings 6 = .ok (.aload_n 0, 1) := by decide +kernel
theorem dX4_rings_7 : decode cX4_rings 7 = .ok (.aload_n 1, 1) := by decide +kernel
theorem dX4_rings_8 : decode cX4_rings 8 = .ok (.iload_n 2, 1) := by decide +kernel
theorem dX4_rings_9 : decode cX4_rings 9 = .ok (.invokespecial 25, 3) := by decide +kernel
theorem dX4_rings_12 : decode cX4_rings 12 = .ok (.aload_n 0, 1) := by decide +kernel
theorem dX4_rings_13 : decode cX4_rings 13 = .ok (.aload_n 1, 1) := by decide +kernel
theorem dX4_rings_14 : decode cX4_rings 14 = .ok (.aload_n 1, 1) := by decide +kernel
theorem dX4_rings_15 : decode cX4_rings 15 = .ok (.getfield 28, 3) := by decide +kernel
theorem dX4_rings_18 : decode cX4_rings 18 = .ok (.invokevirtual 32, 3) := by decide +kernel
theorem dX4_rings_21 : decode cX4_rings 21 = .ok (.iadd, 1) := by decide +kernel
theorem dX4_rings_22 : decode cX4_rings 22 = .ok (.ireturn, 1) := by decide +kernel
theorem dX5_init_0 : decode cX5_init 0 = .ok (.aload_n 0, 1) := by decide +kernel
theorem dX5_init_1 : decode cX5_init 1 = .ok (.invokespecial 1, 3) := by decide +kernel
theorem dX5_init_4 : decode cX5_init 4 = .ok (.return_, 1) := by decide +kernel
theorem dX5_drifts_0 : decode cX5_drifts 0 = .ok (.aload_n 0, 1) := by decide +kernel
theorem dX5_drifts_1 : decode cX5_drifts 1 = .ok (.iload_n 1, 1) := by decide +kernel
theorem dX5_drifts_2 : decode cX5_drifts 2 = .ok (.iload_n 2, 1) := by decide +kernel
theorem dX5_drifts_3 : decode cX5_drifts 3 = .ok (.invokespecial 7, 3) := by decide +kernel
theorem dX5_drifts_6 : decode cX5_drifts 6 = .ok (.iload_n 1, 1) := by decide +kernel
theorem dX5_drifts_7 : decode cX5_drifts 7 = .ok (.iconst 5, 1) := by decide +kernel
theorem dX5_drifts_8 : decode cX5_drifts 8 = .ok (.if_icmp .le 7, 3) := by decide +kernel
theorem dX5_drifts_11 : decode cX5_drifts 11 = .ok (.iconst 1, 1) := by decide +kernel
theorem dX5_drifts_12 : decode cX5_drifts 12 = .ok (.goto 4, 3) := by decide +kernel
theorem dX5_drifts_15 : decode cX5_drifts 15 = .ok (.iconst 0, 1) := by decide +kernel
theorem dX5_drifts_16 : decode cX5_drifts 16 = .ok (.iadd, 1) := by decide +kernel
theorem dX5_drifts_17 : decode cX5_drifts 17 = .ok (.ireturn, 1) := by decide +kernel
theorem dX5_price_0 : decode cX5_price 0 = .ok (.iconst 0, 1) := by decide +kernel
theorem dX5_price_1 : decode cX5_price 1 = .ok (.aload_n 0, 1) := by decide +kernel
theorem dX5_price_2 : decode cX5_price 2 = .ok (.iload_n 1, 1) := by decide +kernel
theorem dX5_price_3 : decode cX5_price 3 = .ok (.invokespecial 11, 3) := by decide +kernel
theorem dX5_price_6 : decode cX5_price 6 = .ok (.iconst 2, 1) := by decide +kernel
theorem dX5_price_7 : decode cX5_price 7 = .ok (.isub, 1) := by decide +kernel
theorem dX5_price_8 : decode cX5_price 8 = .ok (.invokestatic 15, 3) := by decide +kernel
theorem dX5_price_11 : decode cX5_price 11 = .ok (.ireturn, 1) := by decide +kernel
theorem dX5_calls_0 : decode cX5_calls 0 = .ok (.aload_n 1, 1) := by decide +kernel
theorem dX5_calls_1 : decode cX5_calls 1 = .ok (.bipush 30, 2) := by decide +kernel
theorem dX5_calls_3 : decode cX5_calls 3 = .ok (.invokevirtual 20, 3) := by decide +kernel
theorem dX5_calls_6 : decode cX5_calls 6 = .ok (.iconst 0, 1) := by decide +kernel
theorem dX5_calls_7 : decode cX5_calls 7 = .ok (.aload_n 0, 1) := by decide +kernel
theorem dX5_calls_8 : decode cX5_calls 8 = .ok (.aload_n 1, 1) := by decide +kernel
theorem dX5_calls_9 : decode cX5_calls 9 = .ok (.iload_n 2, 1) := by decide +kernel
theorem dX5_calls_10 : decode cX5_calls 10 = .ok (.invokespecial 26, 3) := by decide +kernel
theorem dX5_calls_13 : decode cX5_calls 13 = .ok (.isub, 1) := by decide +kernel
theorem dX5_calls_14 : decode cX5_calls 14 = .ok (.ireturn, 1) := by decide +kernel
theorem dX6_init_0 : decode cX6_init 0 = .ok (.aload_n 0, 1) := by decide +kernel
theorem dX6_init_1 : decode cX6_init 1 = .ok (.invokespecial 3, 3) := by decide +kernel
theorem dX6_init_4 : decode cX6_init 4 = .ok (.aload_n 0, 1) := by decide +kernel
theorem dX6_init_5 : decode cX6_init 5 = .ok (.sipush 200, 3) := by decide +kernel
theorem dX6_init_8 : decode cX6_init 8 = .ok (.newarray .int, 2) := by decide +kernel
theorem dX6_init_10 : decode cX6_init 10 = .ok (.putfield 11, 3) := by decide +kernel
theorem dX6_init_13 : decode cX6_init 13 = .ok (.aload_n 0, 1) := by decide +kernel
theorem dX6_init_14 : decode cX6_init 14 = .ok (.sipush 201, 3) := by decide +kernel
theorem dX6_init_17 : decode cX6_init 17 = .ok (.newarray .int, 2) := by decide +kernel
theorem dX6_init_19 : decode cX6_init 19 = .ok (.putfield 15, 3) := by decide +kernel
theorem dX6_init_22 : decode cX6_init 22 = .ok (.aload_n 0, 1) := by decide +kernel
theorem dX6_init_23 : decode cX6_init 23 = .ok (.sipush 201, 3) := by decide +kernel
theorem dX6_init_26 : decode cX6_init 26 = .ok (.newarray .int, 2) := by decide +kernel
theorem dX6_init_28 : decode cX6_init 28 = .ok (.putfield 18, 3) := by decide +kernel
theorem dX6_init_31 : decode cX6_init 31 = .ok (.aload_n 0, 1) := by decide +kernel
theorem dX6_init_32 : decode cX6_init 32 = .ok (.new 21, 3) := by decide +kernel
theorem dX6_init_35 : decode cX6_init 35 = .ok (.dup, 1) := by decide +kernel
theorem dX6_init_36 : decode cX6_init 36 = .ok (.invokespecial 23, 3) := by decide +kernel
theorem dX6_init_39 : decode cX6_init 39 = .ok (.putfield 24, 3) := by decide +kernel
theorem dX6_init_42 : decode cX6_init 42 = .ok (.return_, 1) := by decide +kernel
theorem dX6_take_0 : decode cX6_take 0 = .ok (.iload_n 3, 1) := by decide +kernel
theorem dX6_take_1 : decode cX6_take 1 = .ok (.ifCond .lt 15, 3) := by decide +kernel
theorem dX6_take_4 : decode cX6_take 4 = .ok (.aload_n 0, 1) := by decide +kernel
theorem dX6_take_5 : decode cX6_take 5 = .ok (.getfield 28, 3) := by decide +kernel
theorem dX6_take_8 : decode cX6_take 8 = .ok (.iload_n 3, 1) := by decide +kernel
theorem dX6_take_9 : decode cX6_take 9 = .ok (.iadd, 1) := by decide +kernel
theorem dX6_take_10 : decode cX6_take 10 = .ok (.sipush 200, 3) := by decide +kernel
theorem dX6_take_13 : decode cX6_take 13 = .ok (.if_icmp .le 6, 3) := by decide +kernel
theorem dX6_take_16 : decode cX6_take 16 = .ok (.bipush (-2), 2) := by decide +kernel
theorem dX6_take_18 : decode cX6_take 18 = .ok (.ireturn, 1) := by decide +kernel
theorem dX6_take_19 : decode cX6_take 19 = .ok (.iconst 0, 1) := by decide +kernel
theorem dX6_take_20 : decode cX6_take 20 = .ok (.istore 4, 2) := by decide +kernel
theorem dX6_take_22 : decode cX6_take 22 = .ok (.iload 4, 2) := by decide +kernel
theorem dX6_take_24 : decode cX6_take 24 = .ok (.iload_n 3, 1) := by decide +kernel
theorem dX6_take_25 : decode cX6_take 25 = .ok (.if_icmp .ge 40, 3) := by decide +kernel
theorem dX6_take_28 : decode cX6_take 28 = .ok (.aload_n 0, 1) := by decide +kernel
theorem dX6_take_29 : decode cX6_take 29 = .ok (.getfield 11, 3) := by decide +kernel
theorem dX6_take_32 : decode cX6_take 32 = .ok (.aload_n 0, 1) := by decide +kernel
theorem dX6_take_33 : decode cX6_take 33 = .ok (.getfield 28, 3) := by decide +kernel
theorem dX6_take_36 : decode cX6_take 36 = .ok (.lload_n 1, 1) := by decide +kernel
theorem dX6_take_37 : decode cX6_take 37 = .ok (.bipush 8, 2) := by decide +kernel
theorem dX6_take_39 : decode cX6_take 39 = .ok (.iload 4, 2) := by decide +kernel
theorem dX6_take_41 : decode cX6_take 41 = .ok (.imul, 1) := by decide +kernel
theorem dX6_take_42 : decode cX6_take 42 = .ok (.lushr, 1) := by decide +kernel
theorem dX6_take_43 : decode cX6_take 43 = .ok (.l2i, 1) := by decide +kernel
theorem dX6_take_44 : decode cX6_take 44 = .ok (.sipush 255, 3) := by decide +kernel
theorem dX6_take_47 : decode cX6_take 47 = .ok (.iand, 1) := by decide +kernel
theorem dX6_take_48 : decode cX6_take 48 = .ok (.iastore, 1) := by decide +kernel
theorem dX6_take_49 : decode cX6_take 49 = .ok (.aload_n 0, 1) := by decide +kernel
theorem dX6_take_50 : decode cX6_take 50 = .ok (.dup, 1) := by decide +kernel
theorem dX6_take_51 : decode cX6_take 51 = .ok (.getfield 28, 3) := by decide +kernel
theorem dX6_take_54 : decode cX6_take 54 = .ok (.iconst 1, 1) := by decide +kernel
theorem dX6_take_55 : decode cX6_take 55 = .ok (.iadd, 1) := by decide +kernel
theorem dX6_take_56 : decode cX6_take 56 = .ok (.putfield 28, 3) := by decide +kernel
theorem dX6_take_59 : decode cX6_take 59 = .ok (.iinc 4 1, 3) := by decide +kernel
theorem dX6_take_62 : decode cX6_take 62 = .ok (.goto (-40), 3) := by decide +kernel
theorem dX6_take_65 : decode cX6_take 65 = .ok (.aload_n 0, 1) := by decide +kernel
theorem dX6_take_66 : decode cX6_take 66 = .ok (.getfield 28, 3) := by decide +kernel
theorem dX6_take_69 : decode cX6_take 69 = .ok (.ireturn, 1) := by decide +kernel
theorem dX6_useUp_0 : decode cX6_useUp 0 = .ok (.aload_n 0, 1) := by decide +kernel
theorem dX6_useUp_1 : decode cX6_useUp 1 = .ok (.iconst 0, 1) := by decide +kernel
theorem dX6_useUp_2 : decode cX6_useUp 2 = .ok (.putfield 28, 3) := by decide +kernel
theorem dX6_useUp_5 : decode cX6_useUp 5 = .ok (.return_, 1) := by decide +kernel
theorem dX6_readInto_0 : decode cX6_readInto 0 = .ok (.aload_n 0, 1) := by decide +kernel
theorem dX6_readInto_1 : decode cX6_readInto 1 = .ok (.invokevirtual 32, 3) := by decide +kernel
theorem dX6_readInto_4 : decode cX6_readInto 4 = .ok (.aload_n 0, 1) := by decide +kernel
theorem dX6_readInto_5 : decode cX6_readInto 5 = .ok (.iconst 0, 1) := by decide +kernel
theorem dX6_readInto_6 : decode cX6_readInto 6 = .ok (.putfield 35, 3) := by decide +kernel
theorem dX6_readInto_9 : decode cX6_readInto 9 = .ok (.aload_n 0, 1) := by decide +kernel
theorem dX6_readInto_10 : decode cX6_readInto 10 = .ok (.getfield 24, 3) := by decide +kernel
theorem dX6_readInto_13 : decode cX6_readInto 13 = .ok (.invokevirtual 38, 3) := by decide +kernel
theorem dX6_readInto_16 : decode cX6_readInto 16 = .ok (.iconst 0, 1) := by decide +kernel
theorem dX6_readInto_17 : decode cX6_readInto 17 = .ok (.istore_n 2, 1) := by decide +kernel
theorem dX6_readInto_18 : decode cX6_readInto 18 = .ok (.iload_n 2, 1) := by decide +kernel
theorem dX6_readInto_19 : decode cX6_readInto 19 = .ok (.bipush 8, 2) := by decide +kernel
theorem dX6_readInto_21 : decode cX6_readInto 21 = .ok (.if_icmp .gt 57, 3) := by decide +kernel
theorem dX6_readInto_24 : decode cX6_readInto 24 = .ok (.aload_n 0, 1) := by decide +kernel
theorem dX6_readInto_25 : decode cX6_readInto 25 = .ok (.invokevirtual 41, 3) := by decide +kernel
theorem dX6_readInto_28 : decode cX6_readInto 28 = .ok (.sipush 10054, 3) := by decide +kernel
theorem dX6_readInto_31 : decode cX6_readInto 31 = .ok (.if_icmp .eq 47, 3) := by decide +kernel
theorem dX6_readInto_34 : decode cX6_readInto 34 = .ok (.aload_n 0, 1) := by decide +kernel
theorem dX6_readInto_35 : decode cX6_readInto 35 = .ok (.invokevirtual 45, 3) := by decide +kernel
theorem dX6_readInto_38 : decode cX6_readInto 38 = .ok (.ifCond .ne 34, 3) := by decide +kernel
theorem dX6_readInto_41 : decode cX6_readInto 41 = .ok (.bipush (-100), 2) := by decide +kernel
theorem dX6_readInto_43 : decode cX6_readInto 43 = .ok (.aload_n 0, 1) := by decide +kernel
theorem dX6_readInto_44 : decode cX6_readInto 44 = .ok (.getfield 35, 3) := by decide +kernel
theorem dX6_readInto_47 : decode cX6_readInto 47 = .ok (.aload_n 0, 1) := by decide +kernel
theorem dX6_readInto_48 : decode cX6_readInto 48 = .ok (.getfield 49, 3) := by decide +kernel
theorem dX6_readInto_51 : decode cX6_readInto 51 = .ok (.if_icmp .ge 15, 3) := by decide +kernel
theorem dX6_readInto_54 : decode cX6_readInto 54 = .ok (.aload_n 0, 1) := by decide +kernel
theorem dX6_readInto_55 : decode cX6_readInto 55 = .ok (.getfield 18, 3) := by decide +kernel
theorem dX6_readInto_58 : decode cX6_readInto 58 = .ok (.aload_n 0, 1) := by decide +kernel
theorem dX6_readInto_59 : decode cX6_readInto 59 = .ok (.getfield 35, 3) := by decide +kernel
theorem dX6_readInto_62 : decode cX6_readInto 62 = .ok (.iaload, 1) := by decide +kernel
theorem dX6_readInto_63 : decode cX6_readInto 63 = .ok (.goto 7, 3) := by decide +kernel
theorem dX6_readInto_66 : decode cX6_readInto 66 = .ok (.aload_n 0, 1) := by decide +kernel
theorem dX6_readInto_67 : decode cX6_readInto 67 = .ok (.getfield 28, 3) := by decide +kernel
theorem dX6_readInto_70 : decode cX6_readInto 70 = .ok (.isub, 1) := by decide +kernel
theorem dX6_readInto_71 : decode cX6_readInto 71 = .ok (.ireturn, 1) := by decide +kernel
theorem dX6_readInto_72 : decode cX6_readInto 72 = .ok (.iinc 2 1, 3) := by decide +kernel
theorem dX6_readInto_75 : decode cX6_readInto 75 = .ok (.goto (-57), 3) := by decide +kernel
theorem dX6_readInto_78 : decode cX6_readInto 78 = .ok (.aload_n 1, 1) := by decide +kernel
theorem dX6_readInto_79 : decode cX6_readInto 79 = .ok (.aload_n 0, 1) := by decide +kernel
theorem dX6_readInto_80 : decode cX6_readInto 80 = .ok (.getfield 24, 3) := by decide +kernel
theorem dX6_readInto_83 : decode cX6_readInto 83 = .ok (.invokevirtual 52, 3) := by decide +kernel
theorem dX6_readInto_86 : decode cX6_readInto 86 = .ok (.aload_n 1, 1) := by decide +kernel
theorem dX6_readInto_87 : decode cX6_readInto 87 = .ok (.getfield 56, 3) := by decide +kernel
theorem dX6_readInto_90 : decode cX6_readInto 90 = .ok (.ireturn, 1) := by decide +kernel
theorem dX6_splitUp_0 : decode cX6_splitUp 0 = .ok (.aload_n 0, 1) := by decide +kernel
theorem dX6_splitUp_1 : decode cX6_splitUp 1 = .ok (.iconst 0, 1) := by decide +kernel
theorem dX6_splitUp_2 : decode cX6_splitUp 2 = .ok (.putfield 49, 3) := by decide +kernel
theorem dX6_splitUp_5 : decode cX6_splitUp 5 = .ok (.iconst 0, 1) := by decide +kernel
theorem dX6_splitUp_6 : decode cX6_splitUp 6 = .ok (.istore_n 1, 1) := by decide +kernel
theorem dX6_splitUp_7 : decode cX6_splitUp 7 = .ok (.iload_n 1, 1) := by decide +kernel
theorem dX6_splitUp_8 : decode cX6_splitUp 8 = .ok (.aload_n 0, 1) := by decide +kernel
theorem dX6_splitUp_9 : decode cX6_splitUp 9 = .ok (.getfield 28, 3) := by decide +kernel
theorem dX6_splitUp_12 : decode cX6_splitUp 12 = .ok (.if_icmp .ge 68, 3) := by decide +kernel
theorem dX6_splitUp_15 : decode cX6_splitUp 15 = .ok (.aload_n 0, 1) := by decide +kernel
theorem dX6_splitUp_16 : decode cX6_splitUp 16 = .ok (.getfield 11, 3) := by decide +kernel
theorem dX6_splitUp_19 : decode cX6_splitUp 19 = .ok (.iload_n 1, 1) := by decide +kernel
theorem dX6_splitUp_20 : decode cX6_splitUp 20 = .ok (.iaload, 1) := by decide +kernel
theorem dX6_splitUp_21 : decode cX6_splitUp 21 = .ok (.invokestatic 59, 3) := by decide +kernel
theorem dX6_splitUp_24 : decode cX6_splitUp 24 = .ok (.istore_n 2, 1) := by decide +kernel
theorem dX6_splitUp_25 : decode cX6_splitUp 25 = .ok (.iload_n 2, 1) := by decide +kernel
theorem dX6_splitUp_26 : decode cX6_splitUp 26 = .ok (.iconst 3, 1) := by decide +kernel
theorem dX6_splitUp_27 : decode cX6_splitUp 27 = .ok (.if_icmp .eq 26, 3) := by decide +kernel
theorem dX6_splitUp_30 : decode cX6_splitUp 30 = .ok (.iload_n 1, 1) := by decide +kernel
theorem dX6_splitUp_31 : decode cX6_splitUp 31 = .ok (.ifCond .le 22, 3) := by decide +kernel
theorem dX6_splitUp_34 : decode cX6_splitUp 34 = .ok (.aload_n 0, 1) := by decide +kernel
theorem dX6_splitUp_35 : decode cX6_splitUp 35 = .ok (.getfield 11, 3) := by decide +kernel
theorem dX6_splitUp_38 : decode cX6_splitUp 38 = .ok (.iload_n 1, 1) := by decide +kernel
theorem dX6_splitUp_39 : decode cX6_splitUp 39 = .ok (.iconst 1, 1) := by decide +kernel
theorem dX6_splitUp_40 : decode cX6_splitUp 40 = .ok (.isub, 1) := by decide +kernel
theorem dX6_splitUp_41 : decode cX6_splitUp 41 = .ok (.iaload, 1) := by decide +kernel
theorem dX6_splitUp_42 : decode cX6_splitUp 42 = .ok (.invokestatic 59, 3) := by decide +kernel
theorem dX6_splitUp_45 : decode cX6_splitUp 45 = .ok (.iload_n 2, 1) := by decide +kernel
theorem dX6_splitUp_46 : decode cX6_splitUp 46 = .ok (.if_icmp .ne 7, 3) := by decide +kernel
theorem dX6_splitUp_49 : decode cX6_splitUp 49 = .ok (.iconst 1, 1) := by decide +kernel
theorem dX6_splitUp_50 : decode cX6_splitUp 50 = .ok (.goto 4, 3) := by decide +kernel
theorem dX6_splitUp_53 : decode cX6_splitUp 53 = .ok (.iconst 0, 1) := by decide +kernel
theorem dX6_splitUp_54 : decode cX6_splitUp 54 = .ok (.istore_n 3, 1) := by decide +kernel
theorem dX6_splitUp_55 : decode cX6_splitUp 55 = .ok (.iload_n 2, 1) := by decide +kernel
theorem dX6_splitUp_56 : decode cX6_splitUp 56 = .ok (.ifCond .eq 18, 3) := by decide +kernel
theorem dX6_splitUp_59 : decode cX6_splitUp 59 = .ok (.iload_n 3, 1) := by decide +kernel
theorem dX6_splitUp_60 : decode cX6_splitUp 60 = .ok (.ifCond .ne 14, 3) := by decide +kernel
theorem dX6_splitUp_63 : decode cX6_splitUp 63 = .ok (.aload_n 0, 1) := by decide +kernel
theorem dX6_splitUp_64 : decode cX6_splitUp 64 = .ok (.aload_n 0, 1) := by decide +kernel
theorem dX6_splitUp_65 : decode cX6_splitUp 65 = .ok (.iload_n 1, 1) := by decide +kernel
theorem dX6_splitUp_66 : decode cX6_splitUp 66 = .ok (.iload_n 2, 1) := by decide +kernel
theorem dX6_splitUp_67 : decode cX6_splitUp 67 = .ok (.invokevirtual 63, 3) := by decide +kernel
theorem dX6_splitUp_70 : decode cX6_splitUp 70 = .ok (.iload_n 1, 1) := by decide +kernel
theorem dX6_splitUp_71 : decode cX6_splitUp 71 = .ok (.invokevirtual 67, 3) := by decide +kernel
theorem dX6_splitUp_74 : decode cX6_splitUp 74 = .ok (.iinc 1 1, 3) := by decide +kernel
theorem dX6_splitUp_77 : decode cX6_splitUp 77 = .ok (.goto (-70), 3) := by decide +kernel
theorem dX6_splitUp_80 : decode cX6_splitUp 80 = .ok (.aload_n 0, 1) := by decide +kernel
theorem dX6_splitUp_81 : decode cX6_splitUp 81 = .ok (.sipush 10054, 3) := by decide +kernel
theorem dX6_splitUp_84 : decode cX6_splitUp 84 = .ok (.aload_n 0, 1) := by decide +kernel
theorem dX6_splitUp_85 : decode cX6_splitUp 85 = .ok (.getfield 28, 3) := by decide +kernel
theorem dX6_splitUp_88 : decode cX6_splitUp 88 = .ok (.invokevirtual 67, 3) := by decide +kernel
theorem dX6_splitUp_91 : decode cX6_splitUp 91 = .ok (.return_, 1) := by decide +kernel
theorem dX6_addToken_0 : decode cX6_addToken 0 = .ok (.aload_n 0, 1) := by decide +kernel
theorem dX6_addToken_1 : decode cX6_addToken 1 = .ok (.getfield 49, 3) := by decide +kernel
theorem dX6_addToken_4 : decode cX6_addToken 4 = .ok (.aload_n 0, 1) := by decide +kernel
theorem dX6_addToken_5 : decode cX6_addToken 5 = .ok (.getfield 15, 3) := by decide +kernel
theorem dX6_addToken_8 : decode cX6_addToken 8 = .ok (.arraylength, 1) := by decide +kernel
theorem dX6_addToken_9 : decode cX6_addToken 9 = .ok (.if_icmp .ge 33, 3) := by decide +kernel
theorem dX6_addToken_12 : decode cX6_addToken 12 = .ok (.aload_n 0, 1) := by decide +kernel
theorem dX6_addToken_13 : decode cX6_addToken 13 = .ok (.getfield 15, 3) := by decide +kernel
theorem dX6_addToken_16 : decode cX6_addToken 16 = .ok (.aload_n 0, 1) := by decide +kernel
theorem dX6_addToken_17 : decode cX6_addToken 17 = .ok (.getfield 49, 3) := by decide +kernel
theorem dX6_addToken_20 : decode cX6_addToken 20 = .ok (.iload_n 1, 1) := by decide +kernel
theorem dX6_addToken_21 : decode cX6_addToken 21 = .ok (.iastore, 1) := by decide +kernel
theorem dX6_addToken_22 : decode cX6_addToken 22 = .ok (.aload_n 0, 1) := by decide +kernel
theorem dX6_addToken_23 : decode cX6_addToken 23 = .ok (.getfield 18, 3) := by decide +kernel
theorem dX6_addToken_26 : decode cX6_addToken 26 = .ok (.aload_n 0, 1) := by decide +kernel
theorem dX6_addToken_27 : decode cX6_addToken 27 = .ok (.getfield 49, 3) := by decide +kernel
theorem dX6_addToken_30 : decode cX6_addToken 30 = .ok (.iload_n 2, 1) := by decide +kernel
theorem dX6_addToken_31 : decode cX6_addToken 31 = .ok (.iastore, 1) := by decide +kernel
theorem dX6_addToken_32 : decode cX6_addToken 32 = .ok (.aload_n 0, 1) := by decide +kernel
theorem dX6_addToken_33 : decode cX6_addToken 33 = .ok (.dup, 1) := by decide +kernel
theorem dX6_addToken_34 : decode cX6_addToken 34 = .ok (.getfield 49, 3) := by decide +kernel
theorem dX6_addToken_37 : decode cX6_addToken 37 = .ok (.iconst 1, 1) := by decide +kernel
theorem dX6_addToken_38 : decode cX6_addToken 38 = .ok (.iadd, 1) := by decide +kernel
theorem dX6_addToken_39 : decode cX6_addToken 39 = .ok (.putfield 49, 3) := by decide +kernel
theorem dX6_addToken_42 : decode cX6_addToken 42 = .ok (.return_, 1) := by decide +kernel
theorem dX6_sortOf_0 : decode cX6_sortOf 0 = .ok (.iload_n 0, 1) := by decide +kernel
theorem dX6_sortOf_1 : decode cX6_sortOf 1 = .ok (.bipush 32, 2) := by decide +kernel
theorem dX6_sortOf_3 : decode cX6_sortOf 3 = .ok (.if_icmp .ne 5, 3) := by decide +kernel
theorem dX6_sortOf_6 : decode cX6_sortOf 6 = .ok (.iconst 0, 1) := by decide +kernel
theorem dX6_sortOf_7 : decode cX6_sortOf 7 = .ok (.ireturn, 1) := by decide +kernel
theorem dX6_sortOf_8 : decode cX6_sortOf 8 = .ok (.iload_n 0, 1) := by decide +kernel
theorem dX6_sortOf_9 : decode cX6_sortOf 9 = .ok (.bipush 97, 2) := by decide +kernel
theorem dX6_sortOf_11 : decode cX6_sortOf 11 = .ok (.if_icmp .lt 11, 3) := by decide +kernel
theorem dX6_sortOf_14 : decode cX6_sortOf 14 = .ok (.iload_n 0, 1) := by decide +kernel
theorem dX6_sortOf_15 : decode cX6_sortOf 15 = .ok (.bipush 122, 2) := by decide +kernel
theorem dX6_sortOf_17 : decode cX6_sortOf 17 = .ok (.if_icmp .gt 5, 3) := by decide +kernel
theorem dX6_sortOf_20 : decode cX6_sortOf 20 = .ok (.iconst 1, 1) := by decide +kernel
theorem dX6_sortOf_21 : decode cX6_sortOf 21 = .ok (.ireturn, 1) := by decide +kernel
theorem dX6_sortOf_22 : decode cX6_sortOf 22 = .ok (.iload_n 0, 1) := by decide +kernel
theorem dX6_sortOf_23 : decode cX6_sortOf 23 = .ok (.bipush 48, 2) := by decide +kernel
theorem dX6_sortOf_25 : decode cX6_sortOf 25 = .ok (.if_icmp .lt 13, 3) := by decide +kernel
theorem dX6_sortOf_28 : decode cX6_sortOf 28 = .ok (.iload_n 0, 1) := by decide +kernel
theorem dX6_sortOf_29 : decode cX6_sortOf 29 = .ok (.bipush 57, 2) := by decide +kernel
theorem dX6_sortOf_31 : decode cX6_sortOf 31 = .ok (.if_icmp .gt 7, 3) := by decide +kernel
theorem dX6_sortOf_34 : decode cX6_sortOf 34 = .ok (.iconst 2, 1) := by decide +kernel
theorem dX6_sortOf_35 : decode cX6_sortOf 35 = .ok (.goto 4, 3) := by decide +kernel
theorem dX6_sortOf_38 : decode cX6_sortOf 38 = .ok (.iconst 3, 1) := by decide +kernel
theorem dX6_sortOf_39 : decode cX6_sortOf 39 = .ok (.ireturn, 1) := by decide +kernel
theorem dX6_tokenFrom_0 : decode cX6_tokenFrom 0 = .ok (.iload_n 1, 1) := by decide +kernel
theorem dX6_tokenFrom_1 : decode cX6_tokenFrom 1 = .ok (.iconst 1, 1) := by decide +kernel
theorem dX6_tokenFrom_2 : decode cX6_tokenFrom 2 = .ok (.iadd, 1) := by decide +kernel
theorem dX6_tokenFrom_3 : decode cX6_tokenFrom 3 = .ok (.istore_n 3, 1) := by decide +kernel
theorem dX6_tokenFrom_4 : decode cX6_tokenFrom 4 = .ok (.iload_n 3, 1) := by decide +kernel
theorem dX6_tokenFrom_5 : decode cX6_tokenFrom 5 = .ok (.aload_n 0, 1) := by decide +kernel
theorem dX6_tokenFrom_6 : decode cX6_tokenFrom 6 = .ok (.getfield 28, 3) := by decide +kernel
theorem dX6_tokenFrom_9 : decode cX6_tokenFrom 9 = .ok (.if_icmp .ge 22, 3) := by decide +kernel
theorem dX6_tokenFrom_12 : decode cX6_tokenFrom 12 = .ok (.aload_n 0, 1) := by decide +kernel
theorem dX6_tokenFrom_13 : decode cX6_tokenFrom 13 = .ok (.getfield 11, 3) := by decide +kernel
theorem dX6_tokenFrom_16 : decode cX6_tokenFrom 16 = .ok (.iload_n 3, 1) := by decide +kernel
theorem dX6_tokenFrom_17 : decode cX6_tokenFrom 17 = .ok (.iaload, 1) := by decide +kernel
theorem dX6_tokenFrom_18 : decode cX6_tokenFrom 18 = .ok (.invokestatic 59, 3) := by decide +kernel
theorem dX6_tokenFrom_21 : decode cX6_tokenFrom 21 = .ok (.iload_n 2, 1) := by decide +kernel
theorem dX6_tokenFrom_22 : decode cX6_tokenFrom 22 = .ok (.if_icmp .ne 9, 3) := by decide +kernel
theorem dX6_tokenFrom_25 : decode cX6_tokenFrom 25 = .ok (.iinc 3 1, 3) := by decide +kernel
theorem dX6_tokenFrom_28 : decode cX6_tokenFrom 28 = .ok (.goto (-24), 3) := by decide +kernel
theorem dX6_tokenFrom_31 : decode cX6_tokenFrom 31 = .ok (.iload_n 2, 1) := by decide +kernel
theorem dX6_tokenFrom_32 : decode cX6_tokenFrom 32 = .ok (.lookupswitch 42 #[(1, 28), (2, 35)], 28) := by decide +kernel
theorem dX6_tokenFrom_60 : decode cX6_tokenFrom 60 = .ok (.aload_n 0, 1) := by decide +kernel
theorem dX6_tokenFrom_61 : decode cX6_tokenFrom 61 = .ok (.iload_n 1, 1) := by decide +kernel
theorem dX6_tokenFrom_62 : decode cX6_tokenFrom 62 = .ok (.iload_n 3, 1) := by decide +kernel
theorem dX6_tokenFrom_63 : decode cX6_tokenFrom 63 = .ok (.invokevirtual 71, 3) := by decide +kernel
theorem dX6_tokenFrom_66 : decode cX6_tokenFrom 66 = .ok (.ireturn, 1) := by decide +kernel
theorem dX6_tokenFrom_67 : decode cX6_tokenFrom 67 = .ok (.aload_n 0, 1) := by decide +kernel
theorem dX6_tokenFrom_68 : decode cX6_tokenFrom 68 = .ok (.iload_n 1, 1) := by decide +kernel
theorem dX6_tokenFrom_69 : decode cX6_tokenFrom 69 = .ok (.iload_n 3, 1) := by decide +kernel
theorem dX6_tokenFrom_70 : decode cX6_tokenFrom 70 = .ok (.invokevirtual 74, 3) := by decide +kernel
theorem dX6_tokenFrom_73 : decode cX6_tokenFrom 73 = .ok (.ireturn, 1) := by decide +kernel
theorem dX6_tokenFrom_74 : decode cX6_tokenFrom 74 = .ok (.aload_n 0, 1) := by decide +kernel
theorem dX6_tokenFrom_75 : decode cX6_tokenFrom 75 = .ok (.getfield 11, 3) := by decide +kernel
theorem dX6_tokenFrom_78 : decode cX6_tokenFrom 78 = .ok (.iload_n 1, 1) := by decide +kernel
theorem dX6_tokenFrom_79 : decode cX6_tokenFrom 79 = .ok (.iaload, 1) := by decide +kernel
theorem dX6_tokenFrom_80 : decode cX6_tokenFrom 80 = .ok (.invokestatic 77, 3) := by decide +kernel
theorem dX6_tokenFrom_83 : decode cX6_tokenFrom 83 = .ok (.ireturn, 1) := by decide +kernel
theorem dX6_numberOf_0 : decode cX6_numberOf 0 = .ok (.iload_n 2, 1) := by decide +kernel
theorem dX6_numberOf_1 : decode cX6_numberOf 1 = .ok (.iload_n 1, 1) := by decide +kernel
theorem dX6_numberOf_2 : decode cX6_numberOf 2 = .ok (.isub, 1) := by decide +kernel
theorem dX6_numberOf_3 : decode cX6_numberOf 3 = .ok (.iconst 4, 1) := by decide +kernel
theorem dX6_numberOf_4 : decode cX6_numberOf 4 = .ok (.if_icmp .le 7, 3) := by decide +kernel
theorem dX6_numberOf_7 : decode cX6_numberOf 7 = .ok (.sipush 10055, 3) := by decide +kernel
theorem dX6_numberOf_10 : decode cX6_numberOf 10 = .ok (.ireturn, 1) := by decide +kernel
theorem dX6_numberOf_11 : decode cX6_numberOf 11 = .ok (.iconst 0, 1) := by decide +kernel
theorem dX6_numberOf_12 : decode cX6_numberOf 12 = .ok (.istore_n 3, 1) := by decide +kernel
theorem dX6_numberOf_13 : decode cX6_numberOf 13 = .ok (.iload_n 1, 1) := by decide +kernel
theorem dX6_numberOf_14 : decode cX6_numberOf 14 = .ok (.istore 4, 2) := by decide +kernel
theorem dX6_numberOf_16 : decode cX6_numberOf 16 = .ok (.iload 4, 2) := by decide +kernel
theorem dX6_numberOf_18 : decode cX6_numberOf 18 = .ok (.iload_n 2, 1) := by decide +kernel
theorem dX6_numberOf_19 : decode cX6_numberOf 19 = .ok (.if_icmp .ge 25, 3) := by decide +kernel
theorem dX6_numberOf_22 : decode cX6_numberOf 22 = .ok (.iload_n 3, 1) := by decide +kernel
theorem dX6_numberOf_23 : decode cX6_numberOf 23 = .ok (.bipush 10, 2) := by decide +kernel
theorem dX6_numberOf_25 : decode cX6_numberOf 25 = .ok (.imul, 1) := by decide +kernel
theorem dX6_numberOf_26 : decode cX6_numberOf 26 = .ok (.aload_n 0, 1) := by decide +kernel
theorem dX6_numberOf_27 : decode cX6_numberOf 27 = .ok (.getfield 11, 3) := by decide +kernel
theorem dX6_numberOf_30 : decode cX6_numberOf 30 = .ok (.iload 4, 2) := by decide +kernel
theorem dX6_numberOf_32 : decode cX6_numberOf 32 = .ok (.iaload, 1) := by decide +kernel
theorem dX6_numberOf_33 : decode cX6_numberOf 33 = .ok (.iadd, 1) := by decide +kernel
theorem dX6_numberOf_34 : decode cX6_numberOf 34 = .ok (.bipush 48, 2) := by decide +kernel
theorem dX6_numberOf_36 : decode cX6_numberOf 36 = .ok (.isub, 1) := by decide +kernel
theorem dX6_numberOf_37 : decode cX6_numberOf 37 = .ok (.istore_n 3, 1) := by decide +kernel
theorem dX6_numberOf_38 : decode cX6_numberOf 38 = .ok (.iinc 4 1, 3) := by decide +kernel
theorem dX6_numberOf_41 : decode cX6_numberOf 41 = .ok (.goto (-25), 3) := by decide +kernel
theorem dX6_numberOf_44 : decode cX6_numberOf 44 = .ok (.iload_n 3, 1) := by decide +kernel
theorem dX6_numberOf_45 : decode cX6_numberOf 45 = .ok (.ireturn, 1) := by decide +kernel
theorem dX6_signOf_0 : decode cX6_signOf 0 = .ok (.iload_n 0, 1) := by decide +kernel
theorem dX6_signOf_1 : decode cX6_signOf 1 = .ok (.lookupswitch 83 #[(40, 75), (41, 79), (59, 71), (60, 59), (61, 63), (62, 67)], 59) := by decide +kernel
theorem dX6_signOf_60 : decode cX6_signOf 60 = .ok (.sipush 10010, 3) := by decide +kernel
theorem dX6_signOf_63 : decode cX6_signOf 63 = .ok (.ireturn, 1) := by decide +kernel
theorem dX6_signOf_64 : decode cX6_signOf 64 = .ok (.sipush 10011, 3) := by decide +kernel
theorem dX6_signOf_67 : decode cX6_signOf 67 = .ok (.ireturn, 1) := by decide +kernel
theorem dX6_signOf_68 : decode cX6_signOf 68 = .ok (.sipush 10012, 3) := by decide +kernel
theorem dX6_signOf_71 : decode cX6_signOf 71 = .ok (.ireturn, 1) := by decide +kernel
theorem dX6_signOf_72 : decode cX6_signOf 72 = .ok (.sipush 10051, 3) := by decide +kernel
theorem dX6_signOf_75 : decode cX6_signOf 75 = .ok (.ireturn, 1) := by decide +kernel
theorem dX6_signOf_76 : decode cX6_signOf 76 = .ok (.sipush 10052, 3) := by decide +kernel
theorem dX6_signOf_79 : decode cX6_signOf 79 = .ok (.ireturn, 1) := by decide +kernel
theorem dX6_signOf_80 : decode cX6_signOf 80 = .ok (.sipush 10053, 3) := by decide +kernel
theorem dX6_signOf_83 : decode cX6_signOf 83 = .ok (.ireturn, 1) := by decide +kernel
theorem dX6_signOf_84 : decode cX6_signOf 84 = .ok (.sipush 10055, 3) := by decide +kernel
theorem dX6_signOf_87 : decode cX6_signOf 87 = .ok (.ireturn, 1) := by decide +kernel
theorem dX6_wordOf_0 : decode cX6_wordOf 0 = .ok (.aload_n 0, 1) := by decide +kernel
theorem dX6_wordOf_1 : decode cX6_wordOf 1 = .ok (.iload_n 1, 1) := by decide +kernel
theorem dX6_wordOf_2 : decode cX6_wordOf 2 = .ok (.iload_n 2, 1) := by decide +kernel
theorem dX6_wordOf_3 : decode cX6_wordOf 3 = .ok (.invokevirtual 80, 3) := by decide +kernel
theorem dX6_wordOf_6 : decode cX6_wordOf 6 = .ok (.istore_n 3, 1) := by decide +kernel
theorem dX6_wordOf_7 : decode cX6_wordOf 7 = .ok (.iload_n 3, 1) := by decide +kernel
theorem dX6_wordOf_8 : decode cX6_wordOf 8 = .ok (.ifCond .lt 9, 3) := by decide +kernel
theorem dX6_wordOf_11 : decode cX6_wordOf 11 = .ok (.sipush 10030, 3) := by decide +kernel
theorem dX6_wordOf_14 : decode cX6_wordOf 14 = .ok (.iload_n 3, 1) := by decide +kernel
theorem dX6_wordOf_15 : decode cX6_wordOf 15 = .ok (.iadd, 1) := by decide +kernel
theorem dX6_wordOf_16 : decode cX6_wordOf 16 = .ok (.ireturn, 1) := by decide +kernel
theorem dX6_wordOf_17 : decode cX6_wordOf 17 = .ok (.aload_n 0, 1) := by decide +kernel
theorem dX6_wordOf_18 : decode cX6_wordOf 18 = .ok (.iload_n 1, 1) := by decide +kernel
theorem dX6_wordOf_19 : decode cX6_wordOf 19 = .ok (.iload_n 2, 1) := by decide +kernel
theorem dX6_wordOf_20 : decode cX6_wordOf 20 = .ok (.invokevirtual 83, 3) := by decide +kernel
theorem dX6_wordOf_23 : decode cX6_wordOf 23 = .ok (.istore 4, 2) := by decide +kernel
theorem dX6_wordOf_25 : decode cX6_wordOf 25 = .ok (.iload 4, 2) := by decide +kernel
theorem dX6_wordOf_27 : decode cX6_wordOf 27 = .ok (.ifCond .lt 10, 3) := by decide +kernel
theorem dX6_wordOf_30 : decode cX6_wordOf 30 = .ok (.sipush 10000, 3) := by decide +kernel
theorem dX6_wordOf_33 : decode cX6_wordOf 33 = .ok (.iload 4, 2) := by decide +kernel
theorem dX6_wordOf_35 : decode cX6_wordOf 35 = .ok (.iadd, 1) := by decide +kernel
theorem dX6_wordOf_36 : decode cX6_wordOf 36 = .ok (.ireturn, 1) := by decide +kernel
theorem dX6_wordOf_37 : decode cX6_wordOf 37 = .ok (.aload_n 0, 1) := by decide +kernel
theorem dX6_wordOf_38 : decode cX6_wordOf 38 = .ok (.iload_n 1, 1) := by decide +kernel
theorem dX6_wordOf_39 : decode cX6_wordOf 39 = .ok (.iload_n 2, 1) := by decide +kernel
theorem dX6_wordOf_40 : decode cX6_wordOf 40 = .ok (.ldc 86, 2) := by decide +kernel
theorem dX6_wordOf_42 : decode cX6_wordOf 42 = .ok (.invokevirtual 88, 3) := by decide +kernel
theorem dX6_wordOf_45 : decode cX6_wordOf 45 = .ok (.ifCond .eq 7, 3) := by decide +kernel
theorem dX6_wordOf_48 : decode cX6_wordOf 48 = .ok (.sipush 10040, 3) := by decide +kernel
theorem dX6_wordOf_51 : decode cX6_wordOf 51 = .ok (.ireturn, 1) := by decide +kernel
theorem dX6_wordOf_52 : decode cX6_wordOf 52 = .ok (.aload_n 0, 1) := by decide +kernel
theorem dX6_wordOf_53 : decode cX6_wordOf 53 = .ok (.iload_n 1, 1) := by decide +kernel
theorem dX6_wordOf_54 : decode cX6_wordOf 54 = .ok (.iload_n 2, 1) := by decide +kernel
theorem dX6_wordOf_55 : decode cX6_wordOf 55 = .ok (.ldc 92, 2) := by decide +kernel
theorem dX6_wordOf_57 : decode cX6_wordOf 57 = .ok (.invokevirtual 88, 3) := by decide +kernel
theorem dX6_wordOf_60 : decode cX6_wordOf 60 = .ok (.ifCond .eq 7, 3) := by decide +kernel
theorem dX6_wordOf_63 : decode cX6_wordOf 63 = .ok (.sipush 10041, 3) := by decide +kernel
theorem dX6_wordOf_66 : decode cX6_wordOf 66 = .ok (.ireturn, 1) := by decide +kernel
theorem dX6_wordOf_67 : decode cX6_wordOf 67 = .ok (.aload_n 0, 1) := by decide +kernel
theorem dX6_wordOf_68 : decode cX6_wordOf 68 = .ok (.iload_n 1, 1) := by decide +kernel
theorem dX6_wordOf_69 : decode cX6_wordOf 69 = .ok (.iload_n 2, 1) := by decide +kernel
theorem dX6_wordOf_70 : decode cX6_wordOf 70 = .ok (.ldc 94, 2) := by decide +kernel
theorem dX6_wordOf_72 : decode cX6_wordOf 72 = .ok (.invokevirtual 88, 3) := by decide +kernel
theorem dX6_wordOf_75 : decode cX6_wordOf 75 = .ok (.ifCond .eq 7, 3) := by decide +kernel
theorem dX6_wordOf_78 : decode cX6_wordOf 78 = .ok (.sipush 10042, 3) := by decide +kernel
theorem dX6_wordOf_81 : decode cX6_wordOf 81 = .ok (.ireturn, 1) := by decide +kernel
theorem dX6_wordOf_82 : decode cX6_wordOf 82 = .ok (.aload_n 0, 1) := by decide +kernel
theorem dX6_wordOf_83 : decode cX6_wordOf 83 = .ok (.iload_n 1, 1) := by decide +kernel
theorem dX6_wordOf_84 : decode cX6_wordOf 84 = .ok (.iload_n 2, 1) := by decide +kernel
theorem dX6_wordOf_85 : decode cX6_wordOf 85 = .ok (.ldc 96, 2) := by decide +kernel
theorem dX6_wordOf_87 : decode cX6_wordOf 87 = .ok (.invokevirtual 88, 3) := by decide +kernel
theorem dX6_wordOf_90 : decode cX6_wordOf 90 = .ok (.ifCond .eq 7, 3) := by decide +kernel
theorem dX6_wordOf_93 : decode cX6_wordOf 93 = .ok (.sipush 10050, 3) := by decide +kernel
theorem dX6_wordOf_96 : decode cX6_wordOf 96 = .ok (.ireturn, 1) := by decide +kernel
theorem dX6_wordOf_97 : decode cX6_wordOf 97 = .ok (.aload_n 0, 1) := by decide +kernel
theorem dX6_wordOf_98 : decode cX6_wordOf 98 = .ok (.iload_n 1, 1) := by decide +kernel
theorem dX6_wordOf_99 : decode cX6_wordOf 99 = .ok (.iload_n 2, 1) := by decide +kernel
theorem dX6_wordOf_100 : decode cX6_wordOf 100 = .ok (.ldc 98, 2) := by decide +kernel
theorem dX6_wordOf_102 : decode cX6_wordOf 102 = .ok (.invokevirtual 88, 3) := by decide +kernel
theorem dX6_wordOf_105 : decode cX6_wordOf 105 = .ok (.ifCond .eq 7, 3) := by decide +kernel
theorem dX6_wordOf_108 : decode cX6_wordOf 108 = .ok (.sipush 10020, 3) := by decide +kernel
theorem dX6_wordOf_111 : decode cX6_wordOf 111 = .ok (.ireturn, 1) := by decide +kernel
theorem dX6_wordOf_112 : decode cX6_wordOf 112 = .ok (.aload_n 0, 1) := by decide +kernel
theorem dX6_wordOf_113 : decode cX6_wordOf 113 = .ok (.iload_n 1, 1) := by decide +kernel
theorem dX6_wordOf_114 : decode cX6_wordOf 114 = .ok (.iload_n 2, 1) := by decide +kernel
theorem dX6_wordOf_115 : decode cX6_wordOf 115 = .ok (.ldc 100, 2) := by decide +kernel
theorem dX6_wordOf_117 : decode cX6_wordOf 117 = .ok (.invokevirtual 88, 3) := by decide +kernel
theorem dX6_wordOf_120 : decode cX6_wordOf 120 = .ok (.ifCond .eq 7, 3) := by decide +kernel
theorem dX6_wordOf_123 : decode cX6_wordOf 123 = .ok (.sipush 10021, 3) := by decide +kernel
theorem dX6_wordOf_126 : decode cX6_wordOf 126 = .ok (.ireturn, 1) := by decide +kernel
theorem dX6_wordOf_127 : decode cX6_wordOf 127 = .ok (.aload_n 0, 1) := by decide +kernel
theorem dX6_wordOf_128 : decode cX6_wordOf 128 = .ok (.iload_n 1, 1) := by decide +kernel
theorem dX6_wordOf_129 : decode cX6_wordOf 129 = .ok (.iload_n 2, 1) := by decide +kernel
theorem dX6_wordOf_130 : decode cX6_wordOf 130 = .ok (.ldc 102, 2) := by decide +kernel
theorem dX6_wordOf_132 : decode cX6_wordOf 132 = .ok (.invokevirtual 88, 3) := by decide +kernel
theorem dX6_wordOf_135 : decode cX6_wordOf 135 = .ok (.ifCond .eq 7, 3) := by decide +kernel
theorem dX6_wordOf_138 : decode cX6_wordOf 138 = .ok (.sipush 10022, 3) := by decide +kernel
theorem dX6_wordOf_141 : decode cX6_wordOf 141 = .ok (.ireturn, 1) := by decide +kernel
theorem dX6_wordOf_142 : decode cX6_wordOf 142 = .ok (.sipush 10055, 3) := by decide +kernel
theorem dX6_wordOf_145 : decode cX6_wordOf 145 = .ok (.ireturn, 1) := by decide +kernel
theorem dX6_kindOf_0 : decode cX6_kindOf 0 = .ok (.aload_n 0, 1) := by decide +kernel
theorem dX6_kindOf_1 : decode cX6_kindOf 1 = .ok (.iload_n 1, 1) := by decide +kernel
theorem dX6_kindOf_2 : decode cX6_kindOf 2 = .ok (.iload_n 2, 1) := by decide +kernel
theorem dX6_kindOf_3 : decode cX6_kindOf 3 = .ok (.ldc 104, 2) := by decide +kernel
theorem dX6_kindOf_5 : decode cX6_kindOf 5 = .ok (.invokevirtual 88, 3) := by decide +kernel
theorem dX6_kindOf_8 : decode cX6_kindOf 8 = .ok (.ifCond .eq 5, 3) := by decide +kernel
theorem dX6_kindOf_11 : decode cX6_kindOf 11 = .ok (.iconst 0, 1) := by decide +kernel
theorem dX6_kindOf_12 : decode cX6_kindOf 12 = .ok (.ireturn, 1) := by decide +kernel
theorem dX6_kindOf_13 : decode cX6_kindOf 13 = .ok (.aload_n 0, 1) := by decide +kernel
theorem dX6_kindOf_14 : decode cX6_kindOf 14 = .ok (.iload_n 1, 1) := by decide +kernel
theorem dX6_kindOf_15 : decode cX6_kindOf 15 = .ok (.iload_n 2, 1) := by decide +kernel
theorem dX6_kindOf_16 : decode cX6_kindOf 16 = .ok (.ldc 106, 2) := by decide +kernel
theorem dX6_kindOf_18 : decode cX6_kindOf 18 = .ok (.invokevirtual 88, 3) := by decide +kernel
theorem dX6_kindOf_21 : decode cX6_kindOf 21 = .ok (.ifCond .eq 5, 3) := by decide +kernel
theorem dX6_kindOf_24 : decode cX6_kindOf 24 = .ok (.iconst 1, 1) := by decide +kernel
theorem dX6_kindOf_25 : decode cX6_kindOf 25 = .ok (.ireturn, 1) := by decide +kernel
theorem dX6_kindOf_26 : decode cX6_kindOf 26 = .ok (.aload_n 0, 1) := by decide +kernel
theorem dX6_kindOf_27 : decode cX6_kindOf 27 = .ok (.iload_n 1, 1) := by decide +kernel
theorem dX6_kindOf_28 : decode cX6_kindOf 28 = .ok (.iload_n 2, 1) := by decide +kernel
theorem dX6_kindOf_29 : decode cX6_kindOf 29 = .ok (.ldc 108, 2) := by decide +kernel
theorem dX6_kindOf_31 : decode cX6_kindOf 31 = .ok (.invokevirtual 88, 3) := by decide +kernel
theorem dX6_kindOf_34 : decode cX6_kindOf 34 = .ok (.ifCond .eq 5, 3) := by decide +kernel
theorem dX6_kindOf_37 : decode cX6_kindOf 37 = .ok (.iconst 2, 1) := by decide +kernel
theorem dX6_kindOf_38 : decode cX6_kindOf 38 = .ok (.ireturn, 1) := by decide +kernel
theorem dX6_kindOf_39 : decode cX6_kindOf 39 = .ok (.aload_n 0, 1) := by decide +kernel
theorem dX6_kindOf_40 : decode cX6_kindOf 40 = .ok (.iload_n 1, 1) := by decide +kernel
theorem dX6_kindOf_41 : decode cX6_kindOf 41 = .ok (.iload_n 2, 1) := by decide +kernel
theorem dX6_kindOf_42 : decode cX6_kindOf 42 = .ok (.ldc 110, 2) := by decide +kernel
theorem dX6_kindOf_44 : decode cX6_kindOf 44 = .ok (.invokevirtual 88, 3) := by decide +kernel
theorem dX6_kindOf_47 : decode cX6_kindOf 47 = .ok (.ifCond .eq 5, 3) := by decide +kernel
theorem dX6_kindOf_50 : decode cX6_kindOf 50 = .ok (.iconst 3, 1) := by decide +kernel
theorem dX6_kindOf_51 : decode cX6_kindOf 51 = .ok (.ireturn, 1) := by decide +kernel
theorem dX6_kindOf_52 : decode cX6_kindOf 52 = .ok (.aload_n 0, 1) := by decide +kernel
theorem dX6_kindOf_53 : decode cX6_kindOf 53 = .ok (.iload_n 1, 1) := by decide +kernel
theorem dX6_kindOf_54 : decode cX6_kindOf 54 = .ok (.iload_n 2, 1) := by decide +kernel
theorem dX6_kindOf_55 : decode cX6_kindOf 55 = .ok (.ldc 112, 2) := by decide +kernel
theorem dX6_kindOf_57 : decode cX6_kindOf 57 = .ok (.invokevirtual 88, 3) := by decide +kernel
theorem dX6_kindOf_60 : decode cX6_kindOf 60 = .ok (.ifCond .eq 5, 3) := by decide +kernel
theorem dX6_kindOf_63 : decode cX6_kindOf 63 = .ok (.iconst 4, 1) := by decide +kernel
theorem dX6_kindOf_64 : decode cX6_kindOf 64 = .ok (.ireturn, 1) := by decide +kernel
theorem dX6_kindOf_65 : decode cX6_kindOf 65 = .ok (.aload_n 0, 1) := by decide +kernel
theorem dX6_kindOf_66 : decode cX6_kindOf 66 = .ok (.iload_n 1, 1) := by decide +kernel
theorem dX6_kindOf_67 : decode cX6_kindOf 67 = .ok (.iload_n 2, 1) := by decide +kernel
theorem dX6_kindOf_68 : decode cX6_kindOf 68 = .ok (.ldc 114, 2) := by decide +kernel
theorem dX6_kindOf_70 : decode cX6_kindOf 70 = .ok (.invokevirtual 88, 3) := by decide +kernel
theorem dX6_kindOf_73 : decode cX6_kindOf 73 = .ok (.ifCond .eq 5, 3) := by decide +kernel
theorem dX6_kindOf_76 : decode cX6_kindOf 76 = .ok (.iconst 5, 1) := by decide +kernel
theorem dX6_kindOf_77 : decode cX6_kindOf 77 = .ok (.ireturn, 1) := by decide +kernel
theorem dX6_kindOf_78 : decode cX6_kindOf 78 = .ok (.iconst (-1), 1) := by decide +kernel
theorem dX6_kindOf_79 : decode cX6_kindOf 79 = .ok (.ireturn, 1) := by decide +kernel
theorem dX6_factOf_0 : decode cX6_factOf 0 = .ok (.aload_n 0, 1) := by decide +kernel
theorem dX6_factOf_1 : decode cX6_factOf 1 = .ok (.iload_n 1, 1) := by decide +kernel
theorem dX6_factOf_2 : decode cX6_factOf 2 = .ok (.iload_n 2, 1) := by decide +kernel
theorem dX6_factOf_3 : decode cX6_factOf 3 = .ok (.ldc 116, 2) := by decide +kernel
theorem dX6_factOf_5 : decode cX6_factOf 5 = .ok (.invokevirtual 88, 3) := by decide +kernel
theorem dX6_factOf_8 : decode cX6_factOf 8 = .ok (.ifCond .eq 5, 3) := by decide +kernel
theorem dX6_factOf_11 : decode cX6_factOf 11 = .ok (.iconst 0, 1) := by decide +kernel
theorem dX6_factOf_12 : decode cX6_factOf 12 = .ok (.ireturn, 1) := by decide +kernel
theorem dX6_factOf_13 : decode cX6_factOf 13 = .ok (.aload_n 0, 1) := by decide +kernel
theorem dX6_factOf_14 : decode cX6_factOf 14 = .ok (.iload_n 1, 1) := by decide +kernel
theorem dX6_factOf_15 : decode cX6_factOf 15 = .ok (.iload_n 2, 1) := by decide +kernel
theorem dX6_factOf_16 : decode cX6_factOf 16 = .ok (.ldc 118, 2) := by decide +kernel
theorem dX6_factOf_18 : decode cX6_factOf 18 = .ok (.invokevirtual 88, 3) := by decide +kernel
theorem dX6_factOf_21 : decode cX6_factOf 21 = .ok (.ifCond .eq 5, 3) := by decide +kernel
theorem dX6_factOf_24 : decode cX6_factOf 24 = .ok (.iconst 1, 1) := by decide +kernel
theorem dX6_factOf_25 : decode cX6_factOf 25 = .ok (.ireturn, 1) := by decide +kernel
theorem dX6_factOf_26 : decode cX6_factOf 26 = .ok (.aload_n 0, 1) := by decide +kernel
theorem dX6_factOf_27 : decode cX6_factOf 27 = .ok (.iload_n 1, 1) := by decide +kernel
theorem dX6_factOf_28 : decode cX6_factOf 28 = .ok (.iload_n 2, 1) := by decide +kernel
theorem dX6_factOf_29 : decode cX6_factOf 29 = .ok (.ldc 120, 2) := by decide +kernel
theorem dX6_factOf_31 : decode cX6_factOf 31 = .ok (.invokevirtual 88, 3) := by decide +kernel
theorem dX6_factOf_34 : decode cX6_factOf 34 = .ok (.ifCond .eq 5, 3) := by decide +kernel
theorem dX6_factOf_37 : decode cX6_factOf 37 = .ok (.iconst 2, 1) := by decide +kernel
theorem dX6_factOf_38 : decode cX6_factOf 38 = .ok (.ireturn, 1) := by decide +kernel
theorem dX6_factOf_39 : decode cX6_factOf 39 = .ok (.aload_n 0, 1) := by decide +kernel
theorem dX6_factOf_40 : decode cX6_factOf 40 = .ok (.iload_n 1, 1) := by decide +kernel
theorem dX6_factOf_41 : decode cX6_factOf 41 = .ok (.iload_n 2, 1) := by decide +kernel
theorem dX6_factOf_42 : decode cX6_factOf 42 = .ok (.ldc 122, 2) := by decide +kernel
theorem dX6_factOf_44 : decode cX6_factOf 44 = .ok (.invokevirtual 88, 3) := by decide +kernel
theorem dX6_factOf_47 : decode cX6_factOf 47 = .ok (.ifCond .eq 5, 3) := by decide +kernel
theorem dX6_factOf_50 : decode cX6_factOf 50 = .ok (.iconst 3, 1) := by decide +kernel
theorem dX6_factOf_51 : decode cX6_factOf 51 = .ok (.ireturn, 1) := by decide +kernel
theorem dX6_factOf_52 : decode cX6_factOf 52 = .ok (.aload_n 0, 1) := by decide +kernel
theorem dX6_factOf_53 : decode cX6_factOf 53 = .ok (.iload_n 1, 1) := by decide +kernel
theorem dX6_factOf_54 : decode cX6_factOf 54 = .ok (.iload_n 2, 1) := by decide +kernel
theorem dX6_factOf_55 : decode cX6_factOf 55 = .ok (.ldc 124, 2) := by decide +kernel
theorem dX6_factOf_57 : decode cX6_factOf 57 = .ok (.invokevirtual 88, 3) := by decide +kernel
theorem dX6_factOf_60 : decode cX6_factOf 60 = .ok (.ifCond .eq 5, 3) := by decide +kernel
theorem dX6_factOf_63 : decode cX6_factOf 63 = .ok (.iconst 4, 1) := by decide +kernel
theorem dX6_factOf_64 : decode cX6_factOf 64 = .ok (.ireturn, 1) := by decide +kernel
theorem dX6_factOf_65 : decode cX6_factOf 65 = .ok (.iconst (-1), 1) := by decide +kernel
theorem dX6_factOf_66 : decode cX6_factOf 66 = .ok (.ireturn, 1) := by decide +kernel
theorem dX6_reads_0 : decode cX6_reads 0 = .ok (.iload_n 2, 1) := by decide +kernel
theorem dX6_reads_1 : decode cX6_reads 1 = .ok (.iload_n 1, 1) := by decide +kernel
theorem dX6_reads_2 : decode cX6_reads 2 = .ok (.isub, 1) := by decide +kernel
theorem dX6_reads_3 : decode cX6_reads 3 = .ok (.aload_n 3, 1) := by decide +kernel
theorem dX6_reads_4 : decode cX6_reads 4 = .ok (.invokevirtual 126, 3) := by decide +kernel
theorem dX6_reads_7 : decode cX6_reads 7 = .ok (.if_icmp .eq 5, 3) := by decide +kernel
theorem dX6_reads_10 : decode cX6_reads 10 = .ok (.iconst 0, 1) := by decide +kernel
theorem dX6_reads_11 : decode cX6_reads 11 = .ok (.ireturn, 1) := by decide +kernel
theorem dX6_reads_12 : decode cX6_reads 12 = .ok (.iload_n 1, 1) := by decide +kernel
theorem dX6_reads_13 : decode cX6_reads 13 = .ok (.istore 4, 2) := by decide +kernel
theorem dX6_reads_15 : decode cX6_reads 15 = .ok (.iload 4, 2) := by decide +kernel
theorem dX6_reads_17 : decode cX6_reads 17 = .ok (.iload_n 2, 1) := by decide +kernel
theorem dX6_reads_18 : decode cX6_reads 18 = .ok (.if_icmp .ge 29, 3) := by decide +kernel
theorem dX6_reads_21 : decode cX6_reads 21 = .ok (.aload_n 0, 1) := by decide +kernel
theorem dX6_reads_22 : decode cX6_reads 22 = .ok (.getfield 11, 3) := by decide +kernel
theorem dX6_reads_25 : decode cX6_reads 25 = .ok (.iload 4, 2) := by decide +kernel
theorem dX6_reads_27 : decode cX6_reads 27 = .ok (.iaload, 1) := by decide +kernel
theorem dX6_reads_28 : decode cX6_reads 28 = .ok (.aload_n 3, 1) := by decide +kernel
theorem dX6_reads_29 : decode cX6_reads 29 = .ok (.iload 4, 2) := by decide +kernel
theorem dX6_reads_31 : decode cX6_reads 31 = .ok (.iload_n 1, 1) := by decide +kernel
theorem dX6_reads_32 : decode cX6_reads 32 = .ok (.isub, 1) := by decide +kernel
theorem dX6_reads_33 : decode cX6_reads 33 = .ok (.invokevirtual 131, 3) := by decide +kernel
theorem dX6_reads_36 : decode cX6_reads 36 = .ok (.if_icmp .eq 5, 3) := by decide +kernel
theorem dX6_reads_39 : decode cX6_reads 39 = .ok (.iconst 0, 1) := by decide +kernel
theorem dX6_reads_40 : decode cX6_reads 40 = .ok (.ireturn, 1) := by decide +kernel
theorem dX6_reads_41 : decode cX6_reads 41 = .ok (.iinc 4 1, 3) := by decide +kernel
theorem dX6_reads_44 : decode cX6_reads 44 = .ok (.goto (-29), 3) := by decide +kernel
theorem dX6_reads_47 : decode cX6_reads 47 = .ok (.iconst 1, 1) := by decide +kernel
theorem dX6_reads_48 : decode cX6_reads 48 = .ok (.ireturn, 1) := by decide +kernel
theorem dX6_readRule_0 : decode cX6_readRule 0 = .ok (.aload_n 0, 1) := by decide +kernel
theorem dX6_readRule_1 : decode cX6_readRule 1 = .ok (.invokevirtual 41, 3) := by decide +kernel
theorem dX6_readRule_4 : decode cX6_readRule 4 = .ok (.sipush 10030, 3) := by decide +kernel
theorem dX6_readRule_7 : decode cX6_readRule 7 = .ok (.isub, 1) := by decide +kernel
theorem dX6_readRule_8 : decode cX6_readRule 8 = .ok (.istore_n 1, 1) := by decide +kernel
theorem dX6_readRule_9 : decode cX6_readRule 9 = .ok (.aload_n 0, 1) := by decide +kernel
theorem dX6_readRule_10 : decode cX6_readRule 10 = .ok (.getfield 24, 3) := by decide +kernel
theorem dX6_readRule_13 : decode cX6_readRule 13 = .ok (.getfield 56, 3) := by decide +kernel
theorem dX6_readRule_16 : decode cX6_readRule 16 = .ok (.bipush 8, 2) := by decide +kernel
theorem dX6_readRule_18 : decode cX6_readRule 18 = .ok (.if_icmp .ge 12, 3) := by decide +kernel
theorem dX6_readRule_21 : decode cX6_readRule 21 = .ok (.iload_n 1, 1) := by decide +kernel
theorem dX6_readRule_22 : decode cX6_readRule 22 = .ok (.iconst 0, 1) := by decide +kernel
theorem dX6_readRule_23 : decode cX6_readRule 23 = .ok (.iconst 5, 1) := by decide +kernel
theorem dX6_readRule_24 : decode cX6_readRule 24 = .ok (.invokestatic 135, 3) := by decide +kernel
theorem dX6_readRule_27 : decode cX6_readRule 27 = .ok (.ifCond .ne 5, 3) := by decide +kernel
theorem dX6_readRule_30 : decode cX6_readRule 30 = .ok (.iconst 0, 1) := by decide +kernel
theorem dX6_readRule_31 : decode cX6_readRule 31 = .ok (.ireturn, 1) := by decide +kernel
theorem dX6_readRule_32 : decode cX6_readRule 32 = .ok (.aload_n 0, 1) := by decide +kernel
theorem dX6_readRule_33 : decode cX6_readRule 33 = .ok (.dup, 1) := by decide +kernel
theorem dX6_readRule_34 : decode cX6_readRule 34 = .ok (.getfield 35, 3) := by decide +kernel
theorem dX6_readRule_37 : decode cX6_readRule 37 = .ok (.iconst 1, 1) := by decide +kernel
theorem dX6_readRule_38 : decode cX6_readRule 38 = .ok (.iadd, 1) := by decide +kernel
theorem dX6_readRule_39 : decode cX6_readRule 39 = .ok (.putfield 35, 3) := by decide +kernel
theorem dX6_readRule_42 : decode cX6_readRule 42 = .ok (.aload_n 0, 1) := by decide +kernel
theorem dX6_readRule_43 : decode cX6_readRule 43 = .ok (.getfield 24, 3) := by decide +kernel
theorem dX6_readRule_46 : decode cX6_readRule 46 = .ok (.getfield 139, 3) := by decide +kernel
theorem dX6_readRule_49 : decode cX6_readRule 49 = .ok (.istore_n 2, 1) := by decide +kernel
theorem dX6_readRule_50 : decode cX6_readRule 50 = .ok (.aload_n 0, 1) := by decide +kernel
theorem dX6_readRule_51 : decode cX6_readRule 51 = .ok (.sipush 10050, 3) := by decide +kernel
theorem dX6_readRule_54 : decode cX6_readRule 54 = .ok (.invokevirtual 142, 3) := by decide +kernel
theorem dX6_readRule_57 : decode cX6_readRule 57 = .ok (.ifCond .eq 13, 3) := by decide +kernel
theorem dX6_readRule_60 : decode cX6_readRule 60 = .ok (.aload_n 0, 1) := by decide +kernel
theorem dX6_readRule_61 : decode cX6_readRule 61 = .ok (.iconst 0, 1) := by decide +kernel
theorem dX6_readRule_62 : decode cX6_readRule 62 = .ok (.invokevirtual 146, 3) := by decide +kernel
theorem dX6_readRule_65 : decode cX6_readRule 65 = .ok (.ifCond .ne 5, 3) := by decide +kernel
theorem dX6_readRule_68 : decode cX6_readRule 68 = .ok (.iconst 0, 1) := by decide +kernel
theorem dX6_readRule_69 : decode cX6_readRule 69 = .ok (.ireturn, 1) := by decide +kernel
theorem dX6_readRule_70 : decode cX6_readRule 70 = .ok (.aload_n 0, 1) := by decide +kernel
theorem dX6_readRule_71 : decode cX6_readRule 71 = .ok (.invokevirtual 41, 3) := by decide +kernel
theorem dX6_readRule_74 : decode cX6_readRule 74 = .ok (.sipush 10040, 3) := by decide +kernel
theorem dX6_readRule_77 : decode cX6_readRule 77 = .ok (.isub, 1) := by decide +kernel
theorem dX6_readRule_78 : decode cX6_readRule 78 = .ok (.istore_n 3, 1) := by decide +kernel
theorem dX6_readRule_79 : decode cX6_readRule 79 = .ok (.iload_n 3, 1) := by decide +kernel
theorem dX6_readRule_80 : decode cX6_readRule 80 = .ok (.iconst 0, 1) := by decide +kernel
theorem dX6_readRule_81 : decode cX6_readRule 81 = .ok (.iconst 2, 1) := by decide +kernel
theorem dX6_readRule_82 : decode cX6_readRule 82 = .ok (.invokestatic 135, 3) := by decide +kernel
theorem dX6_readRule_85 : decode cX6_readRule 85 = .ok (.ifCond .ne 5, 3) := by decide +kernel
theorem dX6_readRule_88 : decode cX6_readRule 88 = .ok (.iconst 0, 1) := by decide +kernel
theorem dX6_readRule_89 : decode cX6_readRule 89 = .ok (.ireturn, 1) := by decide +kernel
theorem dX6_readRule_90 : decode cX6_readRule 90 = .ok (.aload_n 0, 1) := by decide +kernel
theorem dX6_readRule_91 : decode cX6_readRule 91 = .ok (.dup, 1) := by decide +kernel
theorem dX6_readRule_92 : decode cX6_readRule 92 = .ok (.getfield 35, 3) := by decide +kernel
theorem dX6_readRule_95 : decode cX6_readRule 95 = .ok (.iconst 1, 1) := by decide +kernel
theorem dX6_readRule_96 : decode cX6_readRule 96 = .ok (.iadd, 1) := by decide +kernel
theorem dX6_readRule_97 : decode cX6_readRule 97 = .ok (.putfield 35, 3) := by decide +kernel
theorem dX6_readRule_100 : decode cX6_readRule 100 = .ok (.aload_n 0, 1) := by decide +kernel
theorem dX6_readRule_101 : decode cX6_readRule 101 = .ok (.sipush 10051, 3) := by decide +kernel
theorem dX6_readRule_104 : decode cX6_readRule 104 = .ok (.invokevirtual 142, 3) := by decide +kernel
theorem dX6_readRule_107 : decode cX6_readRule 107 = .ok (.ifCond .ne 5, 3) := by decide +kernel
theorem dX6_readRule_110 : decode cX6_readRule 110 = .ok (.iconst 0, 1) := by decide +kernel
theorem dX6_readRule_111 : decode cX6_readRule 111 = .ok (.ireturn, 1) := by decide +kernel
theorem dX6_readRule_112 : decode cX6_readRule 112 = .ok (.aload_n 0, 1) := by decide +kernel
theorem dX6_readRule_113 : decode cX6_readRule 113 = .ok (.getfield 24, 3) := by decide +kernel
theorem dX6_readRule_116 : decode cX6_readRule 116 = .ok (.iload_n 1, 1) := by decide +kernel
theorem dX6_readRule_117 : decode cX6_readRule 117 = .ok (.iload_n 3, 1) := by decide +kernel
theorem dX6_readRule_118 : decode cX6_readRule 118 = .ok (.iload_n 2, 1) := by decide +kernel
theorem dX6_readRule_119 : decode cX6_readRule 119 = .ok (.invokevirtual 149, 3) := by decide +kernel
theorem dX6_readRule_122 : decode cX6_readRule 122 = .ok (.iconst 1, 1) := by decide +kernel
theorem dX6_readRule_123 : decode cX6_readRule 123 = .ok (.ireturn, 1) := by decide +kernel
theorem dX6_readCondition_0 : decode cX6_readCondition 0 = .ok (.aload_n 0, 1) := by decide +kernel
theorem dX6_readCondition_1 : decode cX6_readCondition 1 = .ok (.iload_n 1, 1) := by decide +kernel
theorem dX6_readCondition_2 : decode cX6_readCondition 2 = .ok (.invokevirtual 153, 3) := by decide +kernel
theorem dX6_readCondition_5 : decode cX6_readCondition 5 = .ok (.ifCond .ne 5, 3) := by decide +kernel
theorem dX6_readCondition_8 : decode cX6_readCondition 8 = .ok (.iconst 0, 1) := by decide +kernel
theorem dX6_readCondition_9 : decode cX6_readCondition 9 = .ok (.ireturn, 1) := by decide +kernel
theorem dX6_readCondition_10 : decode cX6_readCondition 10 = .ok (.aload_n 0, 1) := by decide +kernel
theorem dX6_readCondition_11 : decode cX6_readCondition 11 = .ok (.getfield 35, 3) := by decide +kernel
theorem dX6_readCondition_14 : decode cX6_readCondition 14 = .ok (.istore_n 2, 1) := by decide +kernel
theorem dX6_readCondition_15 : decode cX6_readCondition 15 = .ok (.iload_n 2, 1) := by decide +kernel
theorem dX6_readCondition_16 : decode cX6_readCondition 16 = .ok (.aload_n 0, 1) := by decide +kernel
theorem dX6_readCondition_17 : decode cX6_readCondition 17 = .ok (.getfield 49, 3) := by decide +kernel
theorem dX6_readCondition_20 : decode cX6_readCondition 20 = .ok (.if_icmp .ge 39, 3) := by decide +kernel
theorem dX6_readCondition_23 : decode cX6_readCondition 23 = .ok (.aload_n 0, 1) := by decide +kernel
theorem dX6_readCondition_24 : decode cX6_readCondition 24 = .ok (.sipush 10022, 3) := by decide +kernel
theorem dX6_readCondition_27 : decode cX6_readCondition 27 = .ok (.invokevirtual 142, 3) := by decide +kernel
theorem dX6_readCondition_30 : decode cX6_readCondition 30 = .ok (.ifCond .eq 29, 3) := by decide +kernel
theorem dX6_readCondition_33 : decode cX6_readCondition 33 = .ok (.aload_n 0, 1) := by decide +kernel
theorem dX6_readCondition_34 : decode cX6_readCondition 34 = .ok (.iload_n 1, 1) := by decide +kernel
theorem dX6_readCondition_35 : decode cX6_readCondition 35 = .ok (.invokevirtual 153, 3) := by decide +kernel
theorem dX6_readCondition_38 : decode cX6_readCondition 38 = .ok (.ifCond .ne 5, 3) := by decide +kernel
theorem dX6_readCondition_41 : decode cX6_readCondition 41 = .ok (.iconst 0, 1) := by decide +kernel
theorem dX6_readCondition_42 : decode cX6_readCondition 42 = .ok (.ireturn, 1) := by decide +kernel
theorem dX6_readCondition_43 : decode cX6_readCondition 43 = .ok (.aload_n 0, 1) := by decide +kernel
theorem dX6_readCondition_44 : decode cX6_readCondition 44 = .ok (.getfield 24, 3) := by decide +kernel
theorem dX6_readCondition_47 : decode cX6_readCondition 47 = .ok (.sipush 10022, 3) := by decide +kernel
theorem dX6_readCondition_50 : decode cX6_readCondition 50 = .ok (.invokevirtual 156, 3) := by decide +kernel
theorem dX6_readCondition_53 : decode cX6_readCondition 53 = .ok (.iinc 2 1, 3) := by decide +kernel
theorem dX6_readCondition_56 : decode cX6_readCondition 56 = .ok (.goto (-41), 3) := by decide +kernel
theorem dX6_readCondition_59 : decode cX6_readCondition 59 = .ok (.iconst 1, 1) := by decide +kernel
theorem dX6_readCondition_60 : decode cX6_readCondition 60 = .ok (.ireturn, 1) := by decide +kernel
theorem dX6_readAll_0 : decode cX6_readAll 0 = .ok (.aload_n 0, 1) := by decide +kernel
theorem dX6_readAll_1 : decode cX6_readAll 1 = .ok (.iload_n 1, 1) := by decide +kernel
theorem dX6_readAll_2 : decode cX6_readAll 2 = .ok (.invokevirtual 160, 3) := by decide +kernel
theorem dX6_readAll_5 : decode cX6_readAll 5 = .ok (.ifCond .ne 5, 3) := by decide +kernel
theorem dX6_readAll_8 : decode cX6_readAll 8 = .ok (.iconst 0, 1) := by decide +kernel
theorem dX6_readAll_9 : decode cX6_readAll 9 = .ok (.ireturn, 1) := by decide +kernel
theorem dX6_readAll_10 : decode cX6_readAll 10 = .ok (.aload_n 0, 1) := by decide +kernel
theorem dX6_readAll_11 : decode cX6_readAll 11 = .ok (.getfield 35, 3) := by decide +kernel
theorem dX6_readAll_14 : decode cX6_readAll 14 = .ok (.istore_n 2, 1) := by decide +kernel
theorem dX6_readAll_15 : decode cX6_readAll 15 = .ok (.iload_n 2, 1) := by decide +kernel
theorem dX6_readAll_16 : decode cX6_readAll 16 = .ok (.aload_n 0, 1) := by decide +kernel
theorem dX6_readAll_17 : decode cX6_readAll 17 = .ok (.getfield 49, 3) := by decide +kernel
theorem dX6_readAll_20 : decode cX6_readAll 20 = .ok (.if_icmp .ge 39, 3) := by decide +kernel
theorem dX6_readAll_23 : decode cX6_readAll 23 = .ok (.aload_n 0, 1) := by decide +kernel
theorem dX6_readAll_24 : decode cX6_readAll 24 = .ok (.sipush 10021, 3) := by decide +kernel
theorem dX6_readAll_27 : decode cX6_readAll 27 = .ok (.invokevirtual 142, 3) := by decide +kernel
theorem dX6_readAll_30 : decode cX6_readAll 30 = .ok (.ifCond .eq 29, 3) := by decide +kernel
theorem dX6_readAll_33 : decode cX6_readAll 33 = .ok (.aload_n 0, 1) := by decide +kernel
theorem dX6_readAll_34 : decode cX6_readAll 34 = .ok (.iload_n 1, 1) := by decide +kernel
theorem dX6_readAll_35 : decode cX6_readAll 35 = .ok (.invokevirtual 160, 3) := by decide +kernel
theorem dX6_readAll_38 : decode cX6_readAll 38 = .ok (.ifCond .ne 5, 3) := by decide +kernel
theorem dX6_readAll_41 : decode cX6_readAll 41 = .ok (.iconst 0, 1) := by decide +kernel
theorem dX6_readAll_42 : decode cX6_readAll 42 = .ok (.ireturn, 1) := by decide +kernel
theorem dX6_readAll_43 : decode cX6_readAll 43 = .ok (.aload_n 0, 1) := by decide +kernel
theorem dX6_readAll_44 : decode cX6_readAll 44 = .ok (.getfield 24, 3) := by decide +kernel
theorem dX6_readAll_47 : decode cX6_readAll 47 = .ok (.sipush 10021, 3) := by decide +kernel
theorem dX6_readAll_50 : decode cX6_readAll 50 = .ok (.invokevirtual 156, 3) := by decide +kernel
theorem dX6_readAll_53 : decode cX6_readAll 53 = .ok (.iinc 2 1, 3) := by decide +kernel
theorem dX6_readAll_56 : decode cX6_readAll 56 = .ok (.goto (-41), 3) := by decide +kernel
theorem dX6_readAll_59 : decode cX6_readAll 59 = .ok (.iconst 1, 1) := by decide +kernel
theorem dX6_readAll_60 : decode cX6_readAll 60 = .ok (.ireturn, 1) := by decide +kernel
theorem dX6_readOne_0 : decode cX6_readOne 0 = .ok (.iconst 0, 1) := by decide +kernel
theorem dX6_readOne_1 : decode cX6_readOne 1 = .ok (.istore_n 2, 1) := by decide +kernel
theorem dX6_readOne_2 : decode cX6_readOne 2 = .ok (.aload_n 0, 1) := by decide +kernel
theorem dX6_readOne_3 : decode cX6_readOne 3 = .ok (.getfield 35, 3) := by decide +kernel
theorem dX6_readOne_6 : decode cX6_readOne 6 = .ok (.istore_n 3, 1) := by decide +kernel
theorem dX6_readOne_7 : decode cX6_readOne 7 = .ok (.iload_n 3, 1) := by decide +kernel
theorem dX6_readOne_8 : decode cX6_readOne 8 = .ok (.aload_n 0, 1) := by decide +kernel
theorem dX6_readOne_9 : decode cX6_readOne 9 = .ok (.getfield 49, 3) := by decide +kernel
theorem dX6_readOne_12 : decode cX6_readOne 12 = .ok (.if_icmp .ge 29, 3) := by decide +kernel
theorem dX6_readOne_15 : decode cX6_readOne 15 = .ok (.aload_n 0, 1) := by decide +kernel
theorem dX6_readOne_16 : decode cX6_readOne 16 = .ok (.sipush 10020, 3) := by decide +kernel
theorem dX6_readOne_19 : decode cX6_readOne 19 = .ok (.invokevirtual 142, 3) := by decide +kernel
theorem dX6_readOne_22 : decode cX6_readOne 22 = .ok (.ifCond .eq 19, 3) := by decide +kernel
theorem dX6_readOne_25 : decode cX6_readOne 25 = .ok (.iload_n 2, 1) := by decide +kernel
theorem dX6_readOne_26 : decode cX6_readOne 26 = .ok (.ifCond .ne 7, 3) := by decide +kernel
theorem dX6_readOne_29 : decode cX6_readOne 29 = .ok (.iconst 1, 1) := by decide +kernel
theorem dX6_readOne_30 : decode cX6_readOne 30 = .ok (.goto 4, 3) := by decide +kernel
theorem dX6_readOne_33 : decode cX6_readOne 33 = .ok (.iconst 0, 1) := by decide +kernel
theorem dX6_readOne_34 : decode cX6_readOne 34 = .ok (.istore_n 2, 1) := by decide +kernel
theorem dX6_readOne_35 : decode cX6_readOne 35 = .ok (.iinc 3 1, 3) := by decide +kernel
theorem dX6_readOne_38 : decode cX6_readOne 38 = .ok (.goto (-31), 3) := by decide +kernel
theorem dX6_readOne_41 : decode cX6_readOne 41 = .ok (.aload_n 0, 1) := by decide +kernel
theorem dX6_readOne_42 : decode cX6_readOne 42 = .ok (.invokevirtual 41, 3) := by decide +kernel
theorem dX6_readOne_45 : decode cX6_readOne 45 = .ok (.sipush 10052, 3) := by decide +kernel
theorem dX6_readOne_48 : decode cX6_readOne 48 = .ok (.if_icmp .eq 12, 3) := by decide +kernel
theorem dX6_readOne_51 : decode cX6_readOne 51 = .ok (.aload_n 0, 1) := by decide +kernel
theorem dX6_readOne_52 : decode cX6_readOne 52 = .ok (.invokevirtual 163, 3) := by decide +kernel
theorem dX6_readOne_55 : decode cX6_readOne 55 = .ok (.ifCond .ne 44, 3) := by decide +kernel
theorem dX6_readOne_58 : decode cX6_readOne 58 = .ok (.iconst 0, 1) := by decide +kernel
theorem dX6_readOne_59 : decode cX6_readOne 59 = .ok (.ireturn, 1) := by decide +kernel
theorem dX6_readOne_60 : decode cX6_readOne 60 = .ok (.iload_n 1, 1) := by decide +kernel
theorem dX6_readOne_61 : decode cX6_readOne 61 = .ok (.iconst 3, 1) := by decide +kernel
theorem dX6_readOne_62 : decode cX6_readOne 62 = .ok (.if_icmp .lt 5, 3) := by decide +kernel
theorem dX6_readOne_65 : decode cX6_readOne 65 = .ok (.iconst 0, 1) := by decide +kernel
theorem dX6_readOne_66 : decode cX6_readOne 66 = .ok (.ireturn, 1) := by decide +kernel
theorem dX6_readOne_67 : decode cX6_readOne 67 = .ok (.aload_n 0, 1) := by decide +kernel
theorem dX6_readOne_68 : decode cX6_readOne 68 = .ok (.dup, 1) := by decide +kernel
theorem dX6_readOne_69 : decode cX6_readOne 69 = .ok (.getfield 35, 3) := by decide +kernel
theorem dX6_readOne_72 : decode cX6_readOne 72 = .ok (.iconst 1, 1) := by decide +kernel
theorem dX6_readOne_73 : decode cX6_readOne 73 = .ok (.iadd, 1) := by decide +kernel
theorem dX6_readOne_74 : decode cX6_readOne 74 = .ok (.putfield 35, 3) := by decide +kernel
theorem dX6_readOne_77 : decode cX6_readOne 77 = .ok (.aload_n 0, 1) := by decide +kernel
theorem dX6_readOne_78 : decode cX6_readOne 78 = .ok (.iload_n 1, 1) := by decide +kernel
theorem dX6_readOne_79 : decode cX6_readOne 79 = .ok (.iconst 1, 1) := by decide +kernel
theorem dX6_readOne_80 : decode cX6_readOne 80 = .ok (.iadd, 1) := by decide +kernel
theorem dX6_readOne_81 : decode cX6_readOne 81 = .ok (.invokevirtual 146, 3) := by decide +kernel
theorem dX6_readOne_84 : decode cX6_readOne 84 = .ok (.ifCond .eq 13, 3) := by decide +kernel
theorem dX6_readOne_87 : decode cX6_readOne 87 = .ok (.aload_n 0, 1) := by decide +kernel
theorem dX6_readOne_88 : decode cX6_readOne 88 = .ok (.sipush 10053, 3) := by decide +kernel
theorem dX6_readOne_91 : decode cX6_readOne 91 = .ok (.invokevirtual 142, 3) := by decide +kernel
theorem dX6_readOne_94 : decode cX6_readOne 94 = .ok (.ifCond .ne 5, 3) := by decide +kernel
theorem dX6_readOne_97 : decode cX6_readOne 97 = .ok (.iconst 0, 1) := by decide +kernel
theorem dX6_readOne_98 : decode cX6_readOne 98 = .ok (.ireturn, 1) := by decide +kernel
theorem dX6_readOne_99 : decode cX6_readOne 99 = .ok (.iload_n 2, 1) := by decide +kernel
theorem dX6_readOne_100 : decode cX6_readOne 100 = .ok (.ifCond .eq 13, 3) := by decide +kernel
theorem dX6_readOne_103 : decode cX6_readOne 103 = .ok (.aload_n 0, 1) := by decide +kernel
theorem dX6_readOne_104 : decode cX6_readOne 104 = .ok (.getfield 24, 3) := by decide +kernel
theorem dX6_readOne_107 : decode cX6_readOne 107 = .ok (.sipush 10020, 3) := by decide +kernel
theorem dX6_readOne_110 : decode cX6_readOne 110 = .ok (.invokevirtual 156, 3) := by decide +kernel
theorem dX6_readOne_113 : decode cX6_readOne 113 = .ok (.iconst 1, 1) := by decide +kernel
theorem dX6_readOne_114 : decode cX6_readOne 114 = .ok (.ireturn, 1) := by decide +kernel
theorem dX6_readComparison_0 : decode cX6_readComparison 0 = .ok (.aload_n 0, 1) := by decide +kernel
theorem dX6_readComparison_1 : decode cX6_readComparison 1 = .ok (.invokevirtual 41, 3) := by decide +kernel
theorem dX6_readComparison_4 : decode cX6_readComparison 4 = .ok (.istore_n 1, 1) := by decide +kernel
theorem dX6_readComparison_5 : decode cX6_readComparison 5 = .ok (.iload_n 1, 1) := by decide +kernel
theorem dX6_readComparison_6 : decode cX6_readComparison 6 = .ok (.invokestatic 166, 3) := by decide +kernel
theorem dX6_readComparison_9 : decode cX6_readComparison 9 = .ok (.ifCond .ne 5, 3) := by decide +kernel
theorem dX6_readComparison_12 : decode cX6_readComparison 12 = .ok (.iconst 0, 1) := by decide +kernel
theorem dX6_readComparison_13 : decode cX6_readComparison 13 = .ok (.ireturn, 1) := by decide +kernel
theorem dX6_readComparison_14 : decode cX6_readComparison 14 = .ok (.aload_n 0, 1) := by decide +kernel
theorem dX6_readComparison_15 : decode cX6_readComparison 15 = .ok (.dup, 1) := by decide +kernel
theorem dX6_readComparison_16 : decode cX6_readComparison 16 = .ok (.getfield 35, 3) := by decide +kernel
theorem dX6_readComparison_19 : decode cX6_readComparison 19 = .ok (.iconst 1, 1) := by decide +kernel
theorem dX6_readComparison_20 : decode cX6_readComparison 20 = .ok (.iadd, 1) := by decide +kernel
theorem dX6_readComparison_21 : decode cX6_readComparison 21 = .ok (.putfield 35, 3) := by decide +kernel
theorem dX6_readComparison_24 : decode cX6_readComparison 24 = .ok (.aload_n 0, 1) := by decide +kernel
theorem dX6_readComparison_25 : decode cX6_readComparison 25 = .ok (.invokevirtual 41, 3) := by decide +kernel
theorem dX6_readComparison_28 : decode cX6_readComparison 28 = .ok (.istore_n 2, 1) := by decide +kernel
theorem dX6_readComparison_29 : decode cX6_readComparison 29 = .ok (.iload_n 2, 1) := by decide +kernel
theorem dX6_readComparison_30 : decode cX6_readComparison 30 = .ok (.sipush 10010, 3) := by decide +kernel
theorem dX6_readComparison_33 : decode cX6_readComparison 33 = .ok (.sipush 10012, 3) := by decide +kernel
theorem dX6_readComparison_36 : decode cX6_readComparison 36 = .ok (.invokestatic 135, 3) := by decide +kernel
theorem dX6_readComparison_39 : decode cX6_readComparison 39 = .ok (.ifCond .ne 5, 3) := by decide +kernel
theorem dX6_readComparison_42 : decode cX6_readComparison 42 = .ok (.iconst 0, 1) := by decide +kernel
theorem dX6_readComparison_43 : decode cX6_readComparison 43 = .ok (.ireturn, 1) := by decide +kernel
theorem dX6_readComparison_44 : decode cX6_readComparison 44 = .ok (.aload_n 0, 1) := by decide +kernel
theorem dX6_readComparison_45 : decode cX6_readComparison 45 = .ok (.dup, 1) := by decide +kernel
theorem dX6_readComparison_46 : decode cX6_readComparison 46 = .ok (.getfield 35, 3) := by decide +kernel
theorem dX6_readComparison_49 : decode cX6_readComparison 49 = .ok (.iconst 1, 1) := by decide +kernel
theorem dX6_readComparison_50 : decode cX6_readComparison 50 = .ok (.iadd, 1) := by decide +kernel
theorem dX6_readComparison_51 : decode cX6_readComparison 51 = .ok (.putfield 35, 3) := by decide +kernel
theorem dX6_readComparison_54 : decode cX6_readComparison 54 = .ok (.aload_n 0, 1) := by decide +kernel
theorem dX6_readComparison_55 : decode cX6_readComparison 55 = .ok (.invokevirtual 41, 3) := by decide +kernel
theorem dX6_readComparison_58 : decode cX6_readComparison 58 = .ok (.istore_n 3, 1) := by decide +kernel
theorem dX6_readComparison_59 : decode cX6_readComparison 59 = .ok (.iload_n 3, 1) := by decide +kernel
theorem dX6_readComparison_60 : decode cX6_readComparison 60 = .ok (.invokestatic 166, 3) := by decide +kernel
theorem dX6_readComparison_63 : decode cX6_readComparison 63 = .ok (.ifCond .ne 5, 3) := by decide +kernel
theorem dX6_readComparison_66 : decode cX6_readComparison 66 = .ok (.iconst 0, 1) := by decide +kernel
theorem dX6_readComparison_67 : decode cX6_readComparison 67 = .ok (.ireturn, 1) := by decide +kernel
theorem dX6_readComparison_68 : decode cX6_readComparison 68 = .ok (.aload_n 0, 1) := by decide +kernel
theorem dX6_readComparison_69 : decode cX6_readComparison 69 = .ok (.dup, 1) := by decide +kernel
theorem dX6_readComparison_70 : decode cX6_readComparison 70 = .ok (.getfield 35, 3) := by decide +kernel
theorem dX6_readComparison_73 : decode cX6_readComparison 73 = .ok (.iconst 1, 1) := by decide +kernel
theorem dX6_readComparison_74 : decode cX6_readComparison 74 = .ok (.iadd, 1) := by decide +kernel
theorem dX6_readComparison_75 : decode cX6_readComparison 75 = .ok (.putfield 35, 3) := by decide +kernel
theorem dX6_readComparison_78 : decode cX6_readComparison 78 = .ok (.aload_n 0, 1) := by decide +kernel
theorem dX6_readComparison_79 : decode cX6_readComparison 79 = .ok (.getfield 24, 3) := by decide +kernel
theorem dX6_readComparison_82 : decode cX6_readComparison 82 = .ok (.iload_n 1, 1) := by decide +kernel
theorem dX6_readComparison_83 : decode cX6_readComparison 83 = .ok (.invokevirtual 156, 3) := by decide +kernel
theorem dX6_readComparison_86 : decode cX6_readComparison 86 = .ok (.aload_n 0, 1) := by decide +kernel
theorem dX6_readComparison_87 : decode cX6_readComparison 87 = .ok (.getfield 24, 3) := by decide +kernel
theorem dX6_readComparison_90 : decode cX6_readComparison 90 = .ok (.iload_n 3, 1) := by decide +kernel
theorem dX6_readComparison_91 : decode cX6_readComparison 91 = .ok (.invokevirtual 156, 3) := by decide +kernel
theorem dX6_readComparison_94 : decode cX6_readComparison 94 = .ok (.aload_n 0, 1) := by decide +kernel
theorem dX6_readComparison_95 : decode cX6_readComparison 95 = .ok (.getfield 24, 3) := by decide +kernel
theorem dX6_readComparison_98 : decode cX6_readComparison 98 = .ok (.iload_n 2, 1) := by decide +kernel
theorem dX6_readComparison_99 : decode cX6_readComparison 99 = .ok (.invokevirtual 156, 3) := by decide +kernel
theorem dX6_readComparison_102 : decode cX6_readComparison 102 = .ok (.iconst 1, 1) := by decide +kernel
theorem dX6_readComparison_103 : decode cX6_readComparison 103 = .ok (.ireturn, 1) := by decide +kernel
theorem dX6_isValue_0 : decode cX6_isValue 0 = .ok (.iload_n 0, 1) := by decide +kernel
theorem dX6_isValue_1 : decode cX6_isValue 1 = .ok (.ifCond .lt 14, 3) := by decide +kernel
theorem dX6_isValue_4 : decode cX6_isValue 4 = .ok (.iload_n 0, 1) := by decide +kernel
theorem dX6_isValue_5 : decode cX6_isValue 5 = .ok (.sipush 10005, 3) := by decide +kernel
theorem dX6_isValue_8 : decode cX6_isValue 8 = .ok (.if_icmp .ge 7, 3) := by decide +kernel
theorem dX6_isValue_11 : decode cX6_isValue 11 = .ok (.iconst 1, 1) := by decide +kernel
theorem dX6_isValue_12 : decode cX6_isValue 12 = .ok (.goto 4, 3) := by decide +kernel
theorem dX6_isValue_15 : decode cX6_isValue 15 = .ok (.iconst 0, 1) := by decide +kernel
theorem dX6_isValue_16 : decode cX6_isValue 16 = .ok (.ireturn, 1) := by decide +kernel
theorem dX6_goPast_0 : decode cX6_goPast 0 = .ok (.aload_n 0, 1) := by decide +kernel
theorem dX6_goPast_1 : decode cX6_goPast 1 = .ok (.invokevirtual 41, 3) := by decide +kernel
theorem dX6_goPast_4 : decode cX6_goPast 4 = .ok (.iload_n 1, 1) := by decide +kernel
theorem dX6_goPast_5 : decode cX6_goPast 5 = .ok (.if_icmp .eq 5, 3) := by decide +kernel
theorem dX6_goPast_8 : decode cX6_goPast 8 = .ok (.iconst 0, 1) := by decide +kernel
theorem dX6_goPast_9 : decode cX6_goPast 9 = .ok (.ireturn, 1) := by decide +kernel
theorem dX6_goPast_10 : decode cX6_goPast 10 = .ok (.aload_n 0, 1) := by decide +kernel
theorem dX6_goPast_11 : decode cX6_goPast 11 = .ok (.dup, 1) := by decide +kernel
theorem dX6_goPast_12 : decode cX6_goPast 12 = .ok (.getfield 35, 3) := by decide +kernel
theorem dX6_goPast_15 : decode cX6_goPast 15 = .ok (.iconst 1, 1) := by decide +kernel
theorem dX6_goPast_16 : decode cX6_goPast 16 = .ok (.iadd, 1) := by decide +kernel
theorem dX6_goPast_17 : decode cX6_goPast 17 = .ok (.putfield 35, 3) := by decide +kernel
theorem dX6_goPast_20 : decode cX6_goPast 20 = .ok (.iconst 1, 1) := by decide +kernel
theorem dX6_goPast_21 : decode cX6_goPast 21 = .ok (.ireturn, 1) := by decide +kernel
theorem dX6_current_0 : decode cX6_current 0 = .ok (.aload_n 0, 1) := by decide +kernel
theorem dX6_current_1 : decode cX6_current 1 = .ok (.getfield 35, 3) := by decide +kernel
theorem dX6_current_4 : decode cX6_current 4 = .ok (.aload_n 0, 1) := by decide +kernel
theorem dX6_current_5 : decode cX6_current 5 = .ok (.getfield 49, 3) := by decide +kernel
theorem dX6_current_8 : decode cX6_current 8 = .ok (.if_icmp .ge 15, 3) := by decide +kernel
theorem dX6_current_11 : decode cX6_current 11 = .ok (.aload_n 0, 1) := by decide +kernel
theorem dX6_current_12 : decode cX6_current 12 = .ok (.getfield 15, 3) := by decide +kernel
theorem dX6_current_15 : decode cX6_current 15 = .ok (.aload_n 0, 1) := by decide +kernel
theorem dX6_current_16 : decode cX6_current 16 = .ok (.getfield 35, 3) := by decide +kernel
theorem dX6_current_19 : decode cX6_current 19 = .ok (.iaload, 1) := by decide +kernel
theorem dX6_current_20 : decode cX6_current 20 = .ok (.goto 6, 3) := by decide +kernel
theorem dX6_current_23 : decode cX6_current 23 = .ok (.sipush 10054, 3) := by decide +kernel
theorem dX6_current_26 : decode cX6_current 26 = .ok (.ireturn, 1) := by decide +kernel
theorem dX7_init_0 : decode cX7_init 0 = .ok (.aload_n 0, 1) := by decide +kernel
theorem dX7_init_1 : decode cX7_init 1 = .ok (.invokespecial 3, 3) := by decide +kernel
theorem dX7_init_4 : decode cX7_init 4 = .ok (.aload_n 0, 1) := by decide +kernel
theorem dX7_init_5 : decode cX7_init 5 = .ok (.bipush 8, 2) := by decide +kernel
theorem dX7_init_7 : decode cX7_init 7 = .ok (.newarray .int, 2) := by decide +kernel
theorem dX7_init_9 : decode cX7_init 9 = .ok (.putfield 11, 3) := by decide +kernel
theorem dX7_init_12 : decode cX7_init 12 = .ok (.aload_n 0, 1) := by decide +kernel
theorem dX7_init_13 : decode cX7_init 13 = .ok (.bipush 8, 2) := by decide +kernel
theorem dX7_init_15 : decode cX7_init 15 = .ok (.newarray .int, 2) := by decide +kernel
theorem dX7_init_17 : decode cX7_init 17 = .ok (.putfield 15, 3) := by decide +kernel
theorem dX7_init_20 : decode cX7_init 20 = .ok (.aload_n 0, 1) := by decide +kernel
theorem dX7_init_21 : decode cX7_init 21 = .ok (.bipush 8, 2) := by decide +kernel
theorem dX7_init_23 : decode cX7_init 23 = .ok (.newarray .int, 2) := by decide +kernel
theorem dX7_init_25 : decode cX7_init 25 = .ok (.putfield 18, 3) := by decide +kernel
theorem dX7_init_28 : decode cX7_init 28 = .ok (.aload_n 0, 1) := by decide +kernel
theorem dX7_init_29 : decode cX7_init 29 = .ok (.bipush 8, 2) := by decide +kernel
theorem dX7_init_31 : decode cX7_init 31 = .ok (.newarray .int, 2) := by decide +kernel
theorem dX7_init_33 : decode cX7_init 33 = .ok (.putfield 21, 3) := by decide +kernel
theorem dX7_init_36 : decode cX7_init 36 = .ok (.aload_n 0, 1) := by decide +kernel
theorem dX7_init_37 : decode cX7_init 37 = .ok (.sipush 200, 3) := by decide +kernel
theorem dX7_init_40 : decode cX7_init 40 = .ok (.newarray .int, 2) := by decide +kernel
theorem dX7_init_42 : decode cX7_init 42 = .ok (.putfield 26, 3) := by decide +kernel
theorem dX7_init_45 : decode cX7_init 45 = .ok (.return_, 1) := by decide +kernel
theorem dX7_clear_0 : decode cX7_clear 0 = .ok (.aload_n 0, 1) := by decide +kernel
theorem dX7_clear_1 : decode cX7_clear 1 = .ok (.iconst 0, 1) := by decide +kernel
theorem dX7_clear_2 : decode cX7_clear 2 = .ok (.putfield 29, 3) := by decide +kernel
theorem dX7_clear_5 : decode cX7_clear 5 = .ok (.aload_n 0, 1) := by decide +kernel
theorem dX7_clear_6 : decode cX7_clear 6 = .ok (.iconst 0, 1) := by decide +kernel
theorem dX7_clear_7 : decode cX7_clear 7 = .ok (.putfield 33, 3) := by decide +kernel
theorem dX7_clear_10 : decode cX7_clear 10 = .ok (.return_, 1) := by decide +kernel
theorem dX7_becomeLike_0 : decode cX7_becomeLike 0 = .ok (.aload_n 0, 1) := by decide +kernel
theorem dX7_becomeLike_1 : decode cX7_becomeLike 1 = .ok (.aload_n 1, 1) := by decide +kernel
theorem dX7_becomeLike_2 : decode cX7_becomeLike 2 = .ok (.getfield 29, 3) := by decide +kernel
theorem dX7_becomeLike_5 : decode cX7_becomeLike 5 = .ok (.putfield 29, 3) := by decide +kernel
theorem dX7_becomeLike_8 : decode cX7_becomeLike 8 = .ok (.aload_n 0, 1) := by decide +kernel
theorem dX7_becomeLike_9 : decode cX7_becomeLike 9 = .ok (.aload_n 1, 1) := by decide +kernel
theorem dX7_becomeLike_10 : decode cX7_becomeLike 10 = .ok (.getfield 33, 3) := by decide +kernel
theorem dX7_becomeLike_13 : decode cX7_becomeLike 13 = .ok (.putfield 33, 3) := by decide +kernel
theorem dX7_becomeLike_16 : decode cX7_becomeLike 16 = .ok (.aload_n 1, 1) := by decide +kernel
theorem dX7_becomeLike_17 : decode cX7_becomeLike 17 = .ok (.getfield 11, 3) := by decide +kernel
theorem dX7_becomeLike_20 : decode cX7_becomeLike 20 = .ok (.iconst 0, 1) := by decide +kernel
theorem dX7_becomeLike_21 : decode cX7_becomeLike 21 = .ok (.aload_n 0, 1) := by decide +kernel
theorem dX7_becomeLike_22 : decode cX7_becomeLike 22 = .ok (.getfield 11, 3) := by decide +kernel
theorem dX7_becomeLike_25 : decode cX7_becomeLike 25 = .ok (.iconst 0, 1) := by decide +kernel
theorem dX7_becomeLike_26 : decode cX7_becomeLike 26 = .ok (.bipush 8, 2) := by decide +kernel
theorem dX7_becomeLike_28 : decode cX7_becomeLike 28 = .ok (.invokestatic 36, 3) := by decide +kernel
theorem dX7_becomeLike_31 : decode cX7_becomeLike 31 = .ok (.aload_n 1, 1) := by decide +kernel
theorem dX7_becomeLike_32 : decode cX7_becomeLike 32 = .ok (.getfield 15, 3) := by decide +kernel
theorem dX7_becomeLike_35 : decode cX7_becomeLike 35 = .ok (.iconst 0, 1) := by decide +kernel
theorem dX7_becomeLike_36 : decode cX7_becomeLike 36 = .ok (.aload_n 0, 1) := by decide +kernel
theorem dX7_becomeLike_37 : decode cX7_becomeLike 37 = .ok (.getfield 15, 3) := by decide +kernel
theorem dX7_becomeLike_40 : decode cX7_becomeLike 40 = .ok (.iconst 0, 1) := by decide +kernel
theorem dX7_becomeLike_41 : decode cX7_becomeLike 41 = .ok (.bipush 8, 2) := by decide +kernel
theorem dX7_becomeLike_43 : decode cX7_becomeLike 43 = .ok (.invokestatic 36, 3) := by decide +kernel
theorem dX7_becomeLike_46 : decode cX7_becomeLike 46 = .ok (.aload_n 1, 1) := by decide +kernel
theorem dX7_becomeLike_47 : decode cX7_becomeLike 47 = .ok (.getfield 18, 3) := by decide +kernel
theorem dX7_becomeLike_50 : decode cX7_becomeLike 50 = .ok (.iconst 0, 1) := by decide +kernel
theorem dX7_becomeLike_51 : decode cX7_becomeLike 51 = .ok (.aload_n 0, 1) := by decide +kernel
theorem dX7_becomeLike_52 : decode cX7_becomeLike 52 = .ok (.getfield 18, 3) := by decide +kernel
theorem dX7_becomeLike_55 : decode cX7_becomeLike 55 = .ok (.iconst 0, 1) := by decide +kernel
theorem dX7_becomeLike_56 : decode cX7_becomeLike 56 = .ok (.bipush 8, 2) := by decide +kernel
theorem dX7_becomeLike_58 : decode cX7_becomeLike 58 = .ok (.invokestatic 36, 3) := by decide +kernel
theorem dX7_becomeLike_61 : decode cX7_becomeLike 61 = .ok (.aload_n 1, 1) := by decide +kernel
theorem dX7_becomeLike_62 : decode cX7_becomeLike 62 = .ok (.getfield 21, 3) := by decide +kernel
theorem dX7_becomeLike_65 : decode cX7_becomeLike 65 = .ok (.iconst 0, 1) := by decide +kernel
theorem dX7_becomeLike_66 : decode cX7_becomeLike 66 = .ok (.aload_n 0, 1) := by decide +kernel
theorem dX7_becomeLike_67 : decode cX7_becomeLike 67 = .ok (.getfield 21, 3) := by decide +kernel
theorem dX7_becomeLike_70 : decode cX7_becomeLike 70 = .ok (.iconst 0, 1) := by decide +kernel
theorem dX7_becomeLike_71 : decode cX7_becomeLike 71 = .ok (.bipush 8, 2) := by decide +kernel
theorem dX7_becomeLike_73 : decode cX7_becomeLike 73 = .ok (.invokestatic 36, 3) := by decide +kernel
theorem dX7_becomeLike_76 : decode cX7_becomeLike 76 = .ok (.aload_n 1, 1) := by decide +kernel
theorem dX7_becomeLike_77 : decode cX7_becomeLike 77 = .ok (.getfield 26, 3) := by decide +kernel
theorem dX7_becomeLike_80 : decode cX7_becomeLike 80 = .ok (.iconst 0, 1) := by decide +kernel
theorem dX7_becomeLike_81 : decode cX7_becomeLike 81 = .ok (.aload_n 0, 1) := by decide +kernel
theorem dX7_becomeLike_82 : decode cX7_becomeLike 82 = .ok (.getfield 26, 3) := by decide +kernel
theorem dX7_becomeLike_85 : decode cX7_becomeLike 85 = .ok (.iconst 0, 1) := by decide +kernel
theorem dX7_becomeLike_86 : decode cX7_becomeLike 86 = .ok (.aload_n 1, 1) := by decide +kernel
theorem dX7_becomeLike_87 : decode cX7_becomeLike 87 = .ok (.getfield 33, 3) := by decide +kernel
theorem dX7_becomeLike_90 : decode cX7_becomeLike 90 = .ok (.invokestatic 36, 3) := by decide +kernel
theorem dX7_becomeLike_93 : decode cX7_becomeLike 93 = .ok (.return_, 1) := by decide +kernel
theorem dX7_addCode_0 : decode cX7_addCode 0 = .ok (.aload_n 0, 1) := by decide +kernel
theorem dX7_addCode_1 : decode cX7_addCode 1 = .ok (.getfield 33, 3) := by decide +kernel
theorem dX7_addCode_4 : decode cX7_addCode 4 = .ok (.aload_n 0, 1) := by decide +kernel
theorem dX7_addCode_5 : decode cX7_addCode 5 = .ok (.getfield 26, 3) := by decide +kernel
theorem dX7_addCode_8 : decode cX7_addCode 8 = .ok (.arraylength, 1) := by decide +kernel
theorem dX7_addCode_9 : decode cX7_addCode 9 = .ok (.if_icmp .ge 23, 3) := by decide +kernel
theorem dX7_addCode_12 : decode cX7_addCode 12 = .ok (.aload_n 0, 1) := by decide +kernel
theorem dX7_addCode_13 : decode cX7_addCode 13 = .ok (.getfield 26, 3) := by decide +kernel
theorem dX7_addCode_16 : decode cX7_addCode 16 = .ok (.aload_n 0, 1) := by decide +kernel
theorem dX7_addCode_17 : decode cX7_addCode 17 = .ok (.getfield 33, 3) := by decide +kernel
theorem dX7_addCode_20 : decode cX7_addCode 20 = .ok (.iload_n 1, 1) := by decide +kernel
theorem dX7_addCode_21 : decode cX7_addCode 21 = .ok (.iastore, 1) := by decide +kernel
theorem dX7_addCode_22 : decode cX7_addCode 22 = .ok (.aload_n 0, 1) := by decide +kernel
theorem dX7_addCode_23 : decode cX7_addCode 23 = .ok (.dup, 1) := by decide +kernel
theorem dX7_addCode_24 : decode cX7_addCode 24 = .ok (.getfield 33, 3) := by decide +kernel
theorem dX7_addCode_27 : decode cX7_addCode 27 = .ok (.iconst 1, 1) := by decide +kernel
theorem dX7_addCode_28 : decode cX7_addCode 28 = .ok (.iadd, 1) := by decide +kernel
theorem dX7_addCode_29 : decode cX7_addCode 29 = .ok (.putfield 33, 3) := by decide +kernel
theorem dX7_addCode_32 : decode cX7_addCode 32 = .ok (.return_, 1) := by decide +kernel
theorem dX7_addRule_0 : decode cX7_addRule 0 = .ok (.aload_n 0, 1) := by decide +kernel
theorem dX7_addRule_1 : decode cX7_addRule 1 = .ok (.getfield 29, 3) := by decide +kernel
theorem dX7_addRule_4 : decode cX7_addRule 4 = .ok (.bipush 8, 2) := by decide +kernel
theorem dX7_addRule_6 : decode cX7_addRule 6 = .ok (.if_icmp .ge 56, 3) := by decide +kernel
theorem dX7_addRule_9 : decode cX7_addRule 9 = .ok (.aload_n 0, 1) := by decide +kernel
theorem dX7_addRule_10 : decode cX7_addRule 10 = .ok (.getfield 11, 3) := by decide +kernel
theorem dX7_addRule_13 : decode cX7_addRule 13 = .ok (.aload_n 0, 1) := by decide +kernel
theorem dX7_addRule_14 : decode cX7_addRule 14 = .ok (.getfield 29, 3) := by decide +kernel
theorem dX7_addRule_17 : decode cX7_addRule 17 = .ok (.iload_n 1, 1) := by decide +kernel
theorem dX7_addRule_18 : decode cX7_addRule 18 = .ok (.iastore, 1) := by decide +kernel
theorem dX7_addRule_19 : decode cX7_addRule 19 = .ok (.aload_n 0, 1) := by decide +kernel
theorem dX7_addRule_20 : decode cX7_addRule 20 = .ok (.getfield 15, 3) := by decide +kernel
theorem dX7_addRule_23 : decode cX7_addRule 23 = .ok (.aload_n 0, 1) := by decide +kernel
theorem dX7_addRule_24 : decode cX7_addRule 24 = .ok (.getfield 29, 3) := by decide +kernel
theorem dX7_addRule_27 : decode cX7_addRule 27 = .ok (.iload_n 2, 1) := by decide +kernel
theorem dX7_addRule_28 : decode cX7_addRule 28 = .ok (.iastore, 1) := by decide +kernel
theorem dX7_addRule_29 : decode cX7_addRule 29 = .ok (.aload_n 0, 1) := by decide +kernel
theorem dX7_addRule_30 : decode cX7_addRule 30 = .ok (.getfield 18, 3) := by decide +kernel
theorem dX7_addRule_33 : decode cX7_addRule 33 = .ok (.aload_n 0, 1) := by decide +kernel
theorem dX7_addRule_34 : decode cX7_addRule 34 = .ok (.getfield 29, 3) := by decide +kernel
theorem dX7_addRule_37 : decode cX7_addRule 37 = .ok (.iload_n 3, 1) := by decide +kernel
theorem dX7_addRule_38 : decode cX7_addRule 38 = .ok (.iastore, 1) := by decide +kernel
theorem dX7_addRule_39 : decode cX7_addRule 39 = .ok (.aload_n 0, 1) := by decide +kernel
theorem dX7_addRule_40 : decode cX7_addRule 40 = .ok (.getfield 21, 3) := by decide +kernel
theorem dX7_addRule_43 : decode cX7_addRule 43 = .ok (.aload_n 0, 1) := by decide +kernel
theorem dX7_addRule_44 : decode cX7_addRule 44 = .ok (.getfield 29, 3) := by decide +kernel
theorem dX7_addRule_47 : decode cX7_addRule 47 = .ok (.aload_n 0, 1) := by decide +kernel
theorem dX7_addRule_48 : decode cX7_addRule 48 = .ok (.getfield 33, 3) := by decide +kernel
theorem dX7_addRule_51 : decode cX7_addRule 51 = .ok (.iastore, 1) := by decide +kernel
theorem dX7_addRule_52 : decode cX7_addRule 52 = .ok (.aload_n 0, 1) := by decide +kernel
theorem dX7_addRule_53 : decode cX7_addRule 53 = .ok (.dup, 1) := by decide +kernel
theorem dX7_addRule_54 : decode cX7_addRule 54 = .ok (.getfield 29, 3) := by decide +kernel
theorem dX7_addRule_57 : decode cX7_addRule 57 = .ok (.iconst 1, 1) := by decide +kernel
theorem dX7_addRule_58 : decode cX7_addRule 58 = .ok (.iadd, 1) := by decide +kernel
theorem dX7_addRule_59 : decode cX7_addRule 59 = .ok (.putfield 29, 3) := by decide +kernel
theorem dX7_addRule_62 : decode cX7_addRule 62 = .ok (.return_, 1) := by decide +kernel
theorem dX7_deedFor_0 : decode cX7_deedFor 0 = .ok (.iconst 0, 1) := by decide +kernel
theorem dX7_deedFor_1 : decode cX7_deedFor 1 = .ok (.istore_n 3, 1) := by decide +kernel
theorem dX7_deedFor_2 : decode cX7_deedFor 2 = .ok (.iload_n 3, 1) := by decide +kernel
theorem dX7_deedFor_3 : decode cX7_deedFor 3 = .ok (.aload_n 0, 1) := by decide +kernel
theorem dX7_deedFor_4 : decode cX7_deedFor 4 = .ok (.getfield 29, 3) := by decide +kernel
theorem dX7_deedFor_7 : decode cX7_deedFor 7 = .ok (.if_icmp .ge 38, 3) := by decide +kernel
theorem dX7_deedFor_10 : decode cX7_deedFor 10 = .ok (.iload_n 1, 1) := by decide +kernel
theorem dX7_deedFor_11 : decode cX7_deedFor 11 = .ok (.aload_n 0, 1) := by decide +kernel
theorem dX7_deedFor_12 : decode cX7_deedFor 12 = .ok (.getfield 11, 3) := by decide +kernel
theorem dX7_deedFor_15 : decode cX7_deedFor 15 = .ok (.iload_n 3, 1) := by decide +kernel
theorem dX7_deedFor_16 : decode cX7_deedFor 16 = .ok (.iaload, 1) := by decide +kernel
theorem dX7_deedFor_17 : decode cX7_deedFor 17 = .ok (.invokestatic 42, 3) := by decide +kernel
theorem dX7_deedFor_20 : decode cX7_deedFor 20 = .ok (.ifCond .eq 19, 3) := by decide +kernel
theorem dX7_deedFor_23 : decode cX7_deedFor 23 = .ok (.aload_n 0, 1) := by decide +kernel
theorem dX7_deedFor_24 : decode cX7_deedFor 24 = .ok (.iload_n 3, 1) := by decide +kernel
theorem dX7_deedFor_25 : decode cX7_deedFor 25 = .ok (.aload_n 2, 1) := by decide +kernel
theorem dX7_deedFor_26 : decode cX7_deedFor 26 = .ok (.invokevirtual 46, 3) := by decide +kernel
theorem dX7_deedFor_29 : decode cX7_deedFor 29 = .ok (.ifCond .eq 10, 3) := by decide +kernel
theorem dX7_deedFor_32 : decode cX7_deedFor 32 = .ok (.aload_n 0, 1) := by decide +kernel
theorem dX7_deedFor_33 : decode cX7_deedFor 33 = .ok (.getfield 15, 3) := by decide +kernel
theorem dX7_deedFor_36 : decode cX7_deedFor 36 = .ok (.iload_n 3, 1) := by decide +kernel
theorem dX7_deedFor_37 : decode cX7_deedFor 37 = .ok (.iaload, 1) := by decide +kernel
theorem dX7_deedFor_38 : decode cX7_deedFor 38 = .ok (.ireturn, 1) := by decide +kernel
theorem dX7_deedFor_39 : decode cX7_deedFor 39 = .ok (.iinc 3 1, 3) := by decide +kernel
theorem dX7_deedFor_42 : decode cX7_deedFor 42 = .ok (.goto (-40), 3) := by decide +kernel
theorem dX7_deedFor_45 : decode cX7_deedFor 45 = .ok (.iconst 0, 1) := by decide +kernel
theorem dX7_deedFor_46 : decode cX7_deedFor 46 = .ok (.ireturn, 1) := by decide +kernel
theorem dX7_holds_0 : decode cX7_holds 0 = .ok (.iconst 1, 1) := by decide +kernel
theorem dX7_holds_1 : decode cX7_holds 1 = .ok (.istore_n 3, 1) := by decide +kernel
theorem dX7_holds_2 : decode cX7_holds 2 = .ok (.iconst 0, 1) := by decide +kernel
theorem dX7_holds_3 : decode cX7_holds 3 = .ok (.istore 4, 2) := by decide +kernel
theorem dX7_holds_5 : decode cX7_holds 5 = .ok (.iconst 0, 1) := by decide +kernel
theorem dX7_holds_6 : decode cX7_holds 6 = .ok (.istore 5, 2) := by decide +kernel
theorem dX7_holds_8 : decode cX7_holds 8 = .ok (.aload_n 0, 1) := by decide +kernel
theorem dX7_holds_9 : decode cX7_holds 9 = .ok (.getfield 18, 3) := by decide +kernel
theorem dX7_holds_12 : decode cX7_holds 12 = .ok (.iload_n 1, 1) := by decide +kernel
theorem dX7_holds_13 : decode cX7_holds 13 = .ok (.iaload, 1) := by decide +kernel
theorem dX7_holds_14 : decode cX7_holds 14 = .ok (.istore 6, 2) := by decide +kernel
theorem dX7_holds_16 : decode cX7_holds 16 = .ok (.iload 6, 2) := by decide +kernel
theorem dX7_holds_18 : decode cX7_holds 18 = .ok (.aload_n 0, 1) := by decide +kernel
theorem dX7_holds_19 : decode cX7_holds 19 = .ok (.getfield 21, 3) := by decide +kernel
theorem dX7_holds_22 : decode cX7_holds 22 = .ok (.iload_n 1, 1) := by decide +kernel
theorem dX7_holds_23 : decode cX7_holds 23 = .ok (.iaload, 1) := by decide +kernel
theorem dX7_holds_24 : decode cX7_holds 24 = .ok (.if_icmp .ge 211, 3) := by decide +kernel
theorem dX7_holds_27 : decode cX7_holds 27 = .ok (.aload_n 0, 1) := by decide +kernel
theorem dX7_holds_28 : decode cX7_holds 28 = .ok (.getfield 26, 3) := by decide +kernel
theorem dX7_holds_31 : decode cX7_holds 31 = .ok (.iload 6, 2) := by decide +kernel
theorem dX7_holds_33 : decode cX7_holds 33 = .ok (.iaload, 1) := by decide +kernel
theorem dX7_holds_34 : decode cX7_holds 34 = .ok (.istore 7, 2) := by decide +kernel
theorem dX7_holds_36 : decode cX7_holds 36 = .ok (.iload 7, 2) := by decide +kernel
theorem dX7_holds_38 : decode cX7_holds 38 = .ok (.tableswitch 156 10010 10022 #[66, 86, 106, 156, 156, 156, 156, 156, 156, 156, 126, 133, 145], 66) := by decide +kernel
theorem dX7_holds_104 : decode cX7_holds 104 = .ok (.iload_n 3, 1) := by decide +kernel
theorem dX7_holds_105 : decode cX7_holds 105 = .ok (.iconst 1, 1) := by decide +kernel
theorem dX7_holds_106 : decode cX7_holds 106 = .ok (.ishl, 1) := by decide +kernel
theorem dX7_holds_107 : decode cX7_holds 107 = .ok (.iload 4, 2) := by decide +kernel
theorem dX7_holds_109 : decode cX7_holds 109 = .ok (.iload 5, 2) := by decide +kernel
theorem dX7_holds_111 : decode cX7_holds 111 = .ok (.if_icmp .ge 7, 3) := by decide +kernel
theorem dX7_holds_114 : decode cX7_holds 114 = .ok (.iconst 1, 1) := by decide +kernel
theorem dX7_holds_115 : decode cX7_holds 115 = .ok (.goto 4, 3) := by decide +kernel
theorem dX7_holds_118 : decode cX7_holds 118 = .ok (.iconst 0, 1) := by decide +kernel
theorem dX7_holds_119 : decode cX7_holds 119 = .ok (.ior, 1) := by decide +kernel
theorem dX7_holds_120 : decode cX7_holds 120 = .ok (.istore_n 3, 1) := by decide +kernel
theorem dX7_holds_121 : decode cX7_holds 121 = .ok (.goto 108, 3) := by decide +kernel
theorem dX7_holds_124 : decode cX7_holds 124 = .ok (.iload_n 3, 1) := by decide +kernel
theorem dX7_holds_125 : decode cX7_holds 125 = .ok (.iconst 1, 1) := by decide +kernel
theorem dX7_holds_126 : decode cX7_holds 126 = .ok (.ishl, 1) := by decide +kernel
theorem dX7_holds_127 : decode cX7_holds 127 = .ok (.iload 4, 2) := by decide +kernel
theorem dX7_holds_129 : decode cX7_holds 129 = .ok (.iload 5, 2) := by decide +kernel
theorem dX7_holds_131 : decode cX7_holds 131 = .ok (.if_icmp .ne 7, 3) := by decide +kernel
theorem dX7_holds_134 : decode cX7_holds 134 = .ok (.iconst 1, 1) := by decide +kernel
theorem dX7_holds_135 : decode cX7_holds 135 = .ok (.goto 4, 3) := by decide +kernel
theorem dX7_holds_138 : decode cX7_holds 138 = .ok (.iconst 0, 1) := by decide +kernel
theorem dX7_holds_139 : decode cX7_holds 139 = .ok (.ior, 1) := by decide +kernel
theorem dX7_holds_140 : decode cX7_holds 140 = .ok (.istore_n 3, 1) := by decide +kernel
theorem dX7_holds_141 : decode cX7_holds 141 = .ok (.goto 88, 3) := by decide +kernel
theorem dX7_holds_144 : decode cX7_holds 144 = .ok (.iload_n 3, 1) := by decide +kernel
theorem dX7_holds_145 : decode cX7_holds 145 = .ok (.iconst 1, 1) := by decide +kernel
theorem dX7_holds_146 : decode cX7_holds 146 = .ok (.ishl, 1) := by decide +kernel
theorem dX7_holds_147 : decode cX7_holds 147 = .ok (.iload 4, 2) := by decide +kernel
theorem dX7_holds_149 : decode cX7_holds 149 = .ok (.iload 5, 2) := by decide +kernel
theorem dX7_holds_151 : decode cX7_holds 151 = .ok (.if_icmp .le 7, 3) := by decide +kernel
theorem dX7_holds_154 : decode cX7_holds 154 = .ok (.iconst 1, 1) := by decide +kernel
theorem dX7_holds_155 : decode cX7_holds 155 = .ok (.goto 4, 3) := by decide +kernel
theorem dX7_holds_158 : decode cX7_holds 158 = .ok (.iconst 0, 1) := by decide +kernel
theorem dX7_holds_159 : decode cX7_holds 159 = .ok (.ior, 1) := by decide +kernel
theorem dX7_holds_160 : decode cX7_holds 160 = .ok (.istore_n 3, 1) := by decide +kernel
theorem dX7_holds_161 : decode cX7_holds 161 = .ok (.goto 68, 3) := by decide +kernel
theorem dX7_holds_164 : decode cX7_holds 164 = .ok (.iload_n 3, 1) := by decide +kernel
theorem dX7_holds_165 : decode cX7_holds 165 = .ok (.iconst 1, 1) := by decide +kernel
theorem dX7_holds_166 : decode cX7_holds 166 = .ok (.ixor, 1) := by decide +kernel
theorem dX7_holds_167 : decode cX7_holds 167 = .ok (.istore_n 3, 1) := by decide +kernel
theorem dX7_holds_168 : decode cX7_holds 168 = .ok (.goto 61, 3) := by decide +kernel
theorem dX7_holds_171 : decode cX7_holds 171 = .ok (.iload_n 3, 1) := by decide +kernel
theorem dX7_holds_172 : decode cX7_holds 172 = .ok (.iconst 1, 1) := by decide +kernel
theorem dX7_holds_173 : decode cX7_holds 173 = .ok (.ishr, 1) := by decide +kernel
theorem dX7_holds_174 : decode cX7_holds 174 = .ok (.iload_n 3, 1) := by decide +kernel
theorem dX7_holds_175 : decode cX7_holds 175 = .ok (.bipush (-2), 2) := by decide +kernel
theorem dX7_holds_177 : decode cX7_holds 177 = .ok (.ior, 1) := by decide +kernel
theorem dX7_holds_178 : decode cX7_holds 178 = .ok (.iand, 1) := by decide +kernel
theorem dX7_holds_179 : decode cX7_holds 179 = .ok (.istore_n 3, 1) := by decide +kernel
theorem dX7_holds_180 : decode cX7_holds 180 = .ok (.goto 49, 3) := by decide +kernel
theorem dX7_holds_183 : decode cX7_holds 183 = .ok (.iload_n 3, 1) := by decide +kernel
theorem dX7_holds_184 : decode cX7_holds 184 = .ok (.iconst 1, 1) := by decide +kernel
theorem dX7_holds_185 : decode cX7_holds 185 = .ok (.ishr, 1) := by decide +kernel
theorem dX7_holds_186 : decode cX7_holds 186 = .ok (.iload_n 3, 1) := by decide +kernel
theorem dX7_holds_187 : decode cX7_holds 187 = .ok (.iconst 1, 1) := by decide +kernel
theorem dX7_holds_188 : decode cX7_holds 188 = .ok (.iand, 1) := by decide +kernel
theorem dX7_holds_189 : decode cX7_holds 189 = .ok (.ior, 1) := by decide +kernel
theorem dX7_holds_190 : decode cX7_holds 190 = .ok (.istore_n 3, 1) := by decide +kernel
theorem dX7_holds_191 : decode cX7_holds 191 = .ok (.goto 38, 3) := by decide +kernel
theorem dX7_holds_194 : decode cX7_holds 194 = .ok (.iload 7, 2) := by decide +kernel
theorem dX7_holds_196 : decode cX7_holds 196 = .ok (.sipush 10000, 3) := by decide +kernel
theorem dX7_holds_199 : decode cX7_holds 199 = .ok (.isub, 1) := by decide +kernel
theorem dX7_holds_200 : decode cX7_holds 200 = .ok (.istore 8, 2) := by decide +kernel
theorem dX7_holds_202 : decode cX7_holds 202 = .ok (.iload 5, 2) := by decide +kernel
theorem dX7_holds_204 : decode cX7_holds 204 = .ok (.istore 4, 2) := by decide +kernel
theorem dX7_holds_206 : decode cX7_holds 206 = .ok (.iload 8, 2) := by decide +kernel
theorem dX7_holds_208 : decode cX7_holds 208 = .ok (.ifCond .lt 17, 3) := by decide +kernel
theorem dX7_holds_211 : decode cX7_holds 211 = .ok (.iload 8, 2) := by decide +kernel
theorem dX7_holds_213 : decode cX7_holds 213 = .ok (.aload_n 2, 1) := by decide +kernel
theorem dX7_holds_214 : decode cX7_holds 214 = .ok (.arraylength, 1) := by decide +kernel
theorem dX7_holds_215 : decode cX7_holds 215 = .ok (.if_icmp .ge 10, 3) := by decide +kernel
theorem dX7_holds_218 : decode cX7_holds 218 = .ok (.aload_n 2, 1) := by decide +kernel
theorem dX7_holds_219 : decode cX7_holds 219 = .ok (.iload 8, 2) := by decide +kernel
theorem dX7_holds_221 : decode cX7_holds 221 = .ok (.iaload, 1) := by decide +kernel
theorem dX7_holds_222 : decode cX7_holds 222 = .ok (.goto 5, 3) := by decide +kernel
theorem dX7_holds_225 : decode cX7_holds 225 = .ok (.iload 7, 2) := by decide +kernel
theorem dX7_holds_227 : decode cX7_holds 227 = .ok (.istore 5, 2) := by decide +kernel
theorem dX7_holds_229 : decode cX7_holds 229 = .ok (.iinc 6 1, 3) := by decide +kernel
theorem dX7_holds_232 : decode cX7_holds 232 = .ok (.goto (-216), 3) := by decide +kernel
theorem dX7_holds_235 : decode cX7_holds 235 = .ok (.iload_n 3, 1) := by decide +kernel
theorem dX7_holds_236 : decode cX7_holds 236 = .ok (.iconst 1, 1) := by decide +kernel
theorem dX7_holds_237 : decode cX7_holds 237 = .ok (.iand, 1) := by decide +kernel
theorem dX7_holds_238 : decode cX7_holds 238 = .ok (.iconst 1, 1) := by decide +kernel
theorem dX7_holds_239 : decode cX7_holds 239 = .ok (.if_icmp .ne 7, 3) := by decide +kernel
theorem dX7_holds_242 : decode cX7_holds 242 = .ok (.iconst 1, 1) := by decide +kernel
theorem dX7_holds_243 : decode cX7_holds 243 = .ok (.goto 4, 3) := by decide +kernel
theorem dX7_holds_246 : decode cX7_holds 246 = .ok (.iconst 0, 1) := by decide +kernel
theorem dX7_holds_247 : decode cX7_holds 247 = .ok (.ireturn, 1) := by decide +kernel
theorem dX8_init_0 : decode cX8_init 0 = .ok (.aload_n 0, 1) := by decide +kernel
theorem dX8_init_1 : decode cX8_init 1 = .ok (.invokespecial 3, 3) := by decide +kernel
theorem dX8_init_4 : decode cX8_init 4 = .ok (.aload_n 0, 1) := by decide +kernel
theorem dX8_init_5 : decode cX8_init 5 = .ok (.bipush 16, 2) := by decide +kernel
theorem dX8_init_7 : decode cX8_init 7 = .ok (.newarray .int, 2) := by decide +kernel
theorem dX8_init_9 : decode cX8_init 9 = .ok (.putfield 9, 3) := by decide +kernel
theorem dX8_init_12 : decode cX8_init 12 = .ok (.aload_n 0, 1) := by decide +kernel
theorem dX8_init_13 : decode cX8_init 13 = .ok (.bipush 6, 2) := by decide +kernel
theorem dX8_init_15 : decode cX8_init 15 = .ok (.newarray .int, 2) := by decide +kernel
theorem dX8_init_17 : decode cX8_init 17 = .ok (.putfield 15, 3) := by decide +kernel
theorem dX8_init_20 : decode cX8_init 20 = .ok (.aload_n 0, 1) := by decide +kernel
theorem dX8_init_21 : decode cX8_init 21 = .ok (.bipush 6, 2) := by decide +kernel
theorem dX8_init_23 : decode cX8_init 23 = .ok (.newarray .int, 2) := by decide +kernel
theorem dX8_init_25 : decode cX8_init 25 = .ok (.putfield 18, 3) := by decide +kernel
theorem dX8_init_28 : decode cX8_init 28 = .ok (.aload_n 0, 1) := by decide +kernel
theorem dX8_init_29 : decode cX8_init 29 = .ok (.bipush 6, 2) := by decide +kernel
theorem dX8_init_31 : decode cX8_init 31 = .ok (.newarray .int, 2) := by decide +kernel
theorem dX8_init_33 : decode cX8_init 33 = .ok (.putfield 21, 3) := by decide +kernel
theorem dX8_init_36 : decode cX8_init 36 = .ok (.aload_n 0, 1) := by decide +kernel
theorem dX8_init_37 : decode cX8_init 37 = .ok (.bipush 6, 2) := by decide +kernel
theorem dX8_init_39 : decode cX8_init 39 = .ok (.newarray .int, 2) := by decide +kernel
theorem dX8_init_41 : decode cX8_init 41 = .ok (.putfield 24, 3) := by decide +kernel
theorem dX8_init_44 : decode cX8_init 44 = .ok (.aload_n 0, 1) := by decide +kernel
theorem dX8_init_45 : decode cX8_init 45 = .ok (.bipush 6, 2) := by decide +kernel
theorem dX8_init_47 : decode cX8_init 47 = .ok (.newarray .int, 2) := by decide +kernel
theorem dX8_init_49 : decode cX8_init 49 = .ok (.putfield 27, 3) := by decide +kernel
theorem dX8_init_52 : decode cX8_init 52 = .ok (.aload_n 0, 1) := by decide +kernel
theorem dX8_init_53 : decode cX8_init 53 = .ok (.bipush 6, 2) := by decide +kernel
theorem dX8_init_55 : decode cX8_init 55 = .ok (.newarray .int, 2) := by decide +kernel
theorem dX8_init_57 : decode cX8_init 57 = .ok (.putfield 30, 3) := by decide +kernel
theorem dX8_init_60 : decode cX8_init 60 = .ok (.aload_n 0, 1) := by decide +kernel
theorem dX8_init_61 : decode cX8_init 61 = .ok (.bipush 6, 2) := by decide +kernel
theorem dX8_init_63 : decode cX8_init 63 = .ok (.newarray .int, 2) := by decide +kernel
theorem dX8_init_65 : decode cX8_init 65 = .ok (.putfield 33, 3) := by decide +kernel
theorem dX8_init_68 : decode cX8_init 68 = .ok (.aload_n 0, 1) := by decide +kernel
theorem dX8_init_69 : decode cX8_init 69 = .ok (.new 36, 3) := by decide +kernel
theorem dX8_init_72 : decode cX8_init 72 = .ok (.dup, 1) := by decide +kernel
theorem dX8_init_73 : decode cX8_init 73 = .ok (.invokespecial 38, 3) := by decide +kernel
theorem dX8_init_76 : decode cX8_init 76 = .ok (.putfield 39, 3) := by decide +kernel
theorem dX8_init_79 : decode cX8_init 79 = .ok (.aload_n 0, 1) := by decide +kernel
theorem dX8_init_80 : decode cX8_init 80 = .ok (.iconst 5, 1) := by decide +kernel
theorem dX8_init_81 : decode cX8_init 81 = .ok (.newarray .int, 2) := by decide +kernel
theorem dX8_init_83 : decode cX8_init 83 = .ok (.putfield 43, 3) := by decide +kernel
theorem dX8_init_86 : decode cX8_init 86 = .ok (.aload_n 0, 1) := by decide +kernel
theorem dX8_init_87 : decode cX8_init 87 = .ok (.aload_n 1, 1) := by decide +kernel
theorem dX8_init_88 : decode cX8_init 88 = .ok (.putfield 46, 3) := by decide +kernel
theorem dX8_init_91 : decode cX8_init 91 = .ok (.aload_n 0, 1) := by decide +kernel
theorem dX8_init_92 : decode cX8_init 92 = .ok (.bipush 12, 2) := by decide +kernel
theorem dX8_init_94 : decode cX8_init 94 = .ok (.putfield 50, 3) := by decide +kernel
theorem dX8_init_97 : decode cX8_init 97 = .ok (.aload_n 0, 1) := by decide +kernel
theorem dX8_init_98 : decode cX8_init 98 = .ok (.iconst 2, 1) := by decide +kernel
theorem dX8_init_99 : decode cX8_init 99 = .ok (.putfield 54, 3) := by decide +kernel
theorem dX8_init_102 : decode cX8_init 102 = .ok (.aload_n 0, 1) := by decide +kernel
theorem dX8_init_103 : decode cX8_init 103 = .ok (.iconst 1, 1) := by decide +kernel
theorem dX8_init_104 : decode cX8_init 104 = .ok (.putfield 57, 3) := by decide +kernel
theorem dX8_init_107 : decode cX8_init 107 = .ok (.aload_n 0, 1) := by decide +kernel
theorem dX8_init_108 : decode cX8_init 108 = .ok (.getfield 9, 3) := by decide +kernel
theorem dX8_init_111 : decode cX8_init 111 = .ok (.iconst 1, 1) := by decide +kernel
theorem dX8_init_112 : decode cX8_init 112 = .ok (.invokestatic 60, 3) := by decide +kernel
theorem dX8_init_115 : decode cX8_init 115 = .ok (.return_, 1) := by decide +kernel
theorem dX8_becomeLike_0 : decode cX8_becomeLike 0 = .ok (.aload_n 0, 1) := by decide +kernel
theorem dX8_becomeLike_1 : decode cX8_becomeLike 1 = .ok (.aload_n 1, 1) := by decide +kernel
theorem dX8_becomeLike_2 : decode cX8_becomeLike 2 = .ok (.getfield 66, 3) := by decide +kernel
theorem dX8_becomeLike_5 : decode cX8_becomeLike 5 = .ok (.putfield 66, 3) := by decide +kernel
theorem dX8_becomeLike_8 : decode cX8_becomeLike 8 = .ok (.aload_n 0, 1) := by decide +kernel
theorem dX8_becomeLike_9 : decode cX8_becomeLike 9 = .ok (.aload_n 1, 1) := by decide +kernel
theorem dX8_becomeLike_10 : decode cX8_becomeLike 10 = .ok (.getfield 50, 3) := by decide +kernel
theorem dX8_becomeLike_13 : decode cX8_becomeLike 13 = .ok (.putfield 50, 3) := by decide +kernel
theorem dX8_becomeLike_16 : decode cX8_becomeLike 16 = .ok (.aload_n 0, 1) := by decide +kernel
theorem dX8_becomeLike_17 : decode cX8_becomeLike 17 = .ok (.aload_n 1, 1) := by decide +kernel
theorem dX8_becomeLike_18 : decode cX8_becomeLike 18 = .ok (.getfield 54, 3) := by decide +kernel
theorem dX8_becomeLike_21 : decode cX8_becomeLike 21 = .ok (.putfield 54, 3) := by decide +kernel
theorem dX8_becomeLike_24 : decode cX8_becomeLike 24 = .ok (.aload_n 0, 1) := by decide +kernel
theorem dX8_becomeLike_25 : decode cX8_becomeLike 25 = .ok (.aload_n 1, 1) := by decide +kernel
theorem dX8_becomeLike_26 : decode cX8_becomeLike 26 = .ok (.getfield 69, 3) := by decide +kernel
theorem dX8_becomeLike_29 : decode cX8_becomeLike 29 = .ok (.putfield 69, 3) := by decide +kernel
theorem dX8_becomeLike_32 : decode cX8_becomeLike 32 = .ok (.aload_n 0, 1) := by decide +kernel
theorem dX8_becomeLike_33 : decode cX8_becomeLike 33 = .ok (.aload_n 1, 1) := by decide +kernel
theorem dX8_becomeLike_34 : decode cX8_becomeLike 34 = .ok (.getfield 57, 3) := by decide +kernel
theorem dX8_becomeLike_37 : decode cX8_becomeLike 37 = .ok (.putfield 57, 3) := by decide +kernel
theorem dX8_becomeLike_40 : decode cX8_becomeLike 40 = .ok (.aload_n 0, 1) := by decide +kernel
theorem dX8_becomeLike_41 : decode cX8_becomeLike 41 = .ok (.aload_n 1, 1) := by decide +kernel
theorem dX8_becomeLike_42 : decode cX8_becomeLike 42 = .ok (.getfield 72, 3) := by decide +kernel
theorem dX8_becomeLike_45 : decode cX8_becomeLike 45 = .ok (.putfield 72, 3) := by decide +kernel
theorem dX8_becomeLike_48 : decode cX8_becomeLike 48 = .ok (.aload_n 0, 1) := by decide +kernel
theorem dX8_becomeLike_49 : decode cX8_becomeLike 49 = .ok (.aload_n 1, 1) := by decide +kernel
theorem dX8_becomeLike_50 : decode cX8_becomeLike 50 = .ok (.getfield 75, 3) := by decide +kernel
theorem dX8_becomeLike_53 : decode cX8_becomeLike 53 = .ok (.putfield 75, 3) := by decide +kernel
theorem dX8_becomeLike_56 : decode cX8_becomeLike 56 = .ok (.aload_n 0, 1) := by decide +kernel
theorem dX8_becomeLike_57 : decode cX8_becomeLike 57 = .ok (.aload_n 1, 1) := by decide +kernel
theorem dX8_becomeLike_58 : decode cX8_becomeLike 58 = .ok (.getfield 78, 3) := by decide +kernel
theorem dX8_becomeLike_61 : decode cX8_becomeLike 61 = .ok (.putfield 78, 3) := by decide +kernel
theorem dX8_becomeLike_64 : decode cX8_becomeLike 64 = .ok (.aload_n 1, 1) := by decide +kernel
theorem dX8_becomeLike_65 : decode cX8_becomeLike 65 = .ok (.getfield 9, 3) := by decide +kernel
theorem dX8_becomeLike_68 : decode cX8_becomeLike 68 = .ok (.iconst 0, 1) := by decide +kernel
theorem dX8_becomeLike_69 : decode cX8_becomeLike 69 = .ok (.aload_n 0, 1) := by decide +kernel
theorem dX8_becomeLike_70 : decode cX8_becomeLike 70 = .ok (.getfield 9, 3) := by decide +kernel
theorem dX8_becomeLike_73 : decode cX8_becomeLike 73 = .ok (.iconst 0, 1) := by decide +kernel
theorem dX8_becomeLike_74 : decode cX8_becomeLike 74 = .ok (.bipush 16, 2) := by decide +kernel
theorem dX8_becomeLike_76 : decode cX8_becomeLike 76 = .ok (.invokestatic 81, 3) := by decide +kernel
theorem dX8_becomeLike_79 : decode cX8_becomeLike 79 = .ok (.aload_n 1, 1) := by decide +kernel
theorem dX8_becomeLike_80 : decode cX8_becomeLike 80 = .ok (.getfield 15, 3) := by decide +kernel
theorem dX8_becomeLike_83 : decode cX8_becomeLike 83 = .ok (.iconst 0, 1) := by decide +kernel
theorem dX8_becomeLike_84 : decode cX8_becomeLike 84 = .ok (.aload_n 0, 1) := by decide +kernel
theorem dX8_becomeLike_85 : decode cX8_becomeLike 85 = .ok (.getfield 15, 3) := by decide +kernel
theorem dX8_becomeLike_88 : decode cX8_becomeLike 88 = .ok (.iconst 0, 1) := by decide +kernel
theorem dX8_becomeLike_89 : decode cX8_becomeLike 89 = .ok (.bipush 6, 2) := by decide +kernel
theorem dX8_becomeLike_91 : decode cX8_becomeLike 91 = .ok (.invokestatic 81, 3) := by decide +kernel
theorem dX8_becomeLike_94 : decode cX8_becomeLike 94 = .ok (.aload_n 1, 1) := by decide +kernel
theorem dX8_becomeLike_95 : decode cX8_becomeLike 95 = .ok (.getfield 18, 3) := by decide +kernel
theorem dX8_becomeLike_98 : decode cX8_becomeLike 98 = .ok (.iconst 0, 1) := by decide +kernel
theorem dX8_becomeLike_99 : decode cX8_becomeLike 99 = .ok (.aload_n 0, 1) := by decide +kernel
theorem dX8_becomeLike_100 : decode cX8_becomeLike 100 = .ok (.getfield 18, 3) := by decide +kernel
theorem dX8_becomeLike_103 : decode cX8_becomeLike 103 = .ok (.iconst 0, 1) := by decide +kernel
theorem dX8_becomeLike_104 : decode cX8_becomeLike 104 = .ok (.bipush 6, 2) := by decide +kernel
theorem dX8_becomeLike_106 : decode cX8_becomeLike 106 = .ok (.invokestatic 81, 3) := by decide +kernel
theorem dX8_becomeLike_109 : decode cX8_becomeLike 109 = .ok (.aload_n 1, 1) := by decide +kernel
theorem dX8_becomeLike_110 : decode cX8_becomeLike 110 = .ok (.getfield 21, 3) := by decide +kernel
theorem dX8_becomeLike_113 : decode cX8_becomeLike 113 = .ok (.iconst 0, 1) := by decide +kernel
theorem dX8_becomeLike_114 : decode cX8_becomeLike 114 = .ok (.aload_n 0, 1) := by decide +kernel
theorem dX8_becomeLike_115 : decode cX8_becomeLike 115 = .ok (.getfield 21, 3) := by decide +kernel
theorem dX8_becomeLike_118 : decode cX8_becomeLike 118 = .ok (.iconst 0, 1) := by decide +kernel
theorem dX8_becomeLike_119 : decode cX8_becomeLike 119 = .ok (.bipush 6, 2) := by decide +kernel
theorem dX8_becomeLike_121 : decode cX8_becomeLike 121 = .ok (.invokestatic 81, 3) := by decide +kernel
theorem dX8_becomeLike_124 : decode cX8_becomeLike 124 = .ok (.aload_n 1, 1) := by decide +kernel
theorem dX8_becomeLike_125 : decode cX8_becomeLike 125 = .ok (.getfield 24, 3) := by decide +kernel
theorem dX8_becomeLike_128 : decode cX8_becomeLike 128 = .ok (.iconst 0, 1) := by decide +kernel
theorem dX8_becomeLike_129 : decode cX8_becomeLike 129 = .ok (.aload_n 0, 1) := by decide +kernel
theorem dX8_becomeLike_130 : decode cX8_becomeLike 130 = .ok (.getfield 24, 3) := by decide +kernel
theorem dX8_becomeLike_133 : decode cX8_becomeLike 133 = .ok (.iconst 0, 1) := by decide +kernel
theorem dX8_becomeLike_134 : decode cX8_becomeLike 134 = .ok (.bipush 6, 2) := by decide +kernel
theorem dX8_becomeLike_136 : decode cX8_becomeLike 136 = .ok (.invokestatic 81, 3) := by decide +kernel
theorem dX8_becomeLike_139 : decode cX8_becomeLike 139 = .ok (.aload_n 1, 1) := by decide +kernel
theorem dX8_becomeLike_140 : decode cX8_becomeLike 140 = .ok (.getfield 27, 3) := by decide +kernel
theorem dX8_becomeLike_143 : decode cX8_becomeLike 143 = .ok (.iconst 0, 1) := by decide +kernel
theorem dX8_becomeLike_144 : decode cX8_becomeLike 144 = .ok (.aload_n 0, 1) := by decide +kernel
theorem dX8_becomeLike_145 : decode cX8_becomeLike 145 = .ok (.getfield 27, 3) := by decide +kernel
theorem dX8_becomeLike_148 : decode cX8_becomeLike 148 = .ok (.iconst 0, 1) := by decide +kernel
theorem dX8_becomeLike_149 : decode cX8_becomeLike 149 = .ok (.bipush 6, 2) := by decide +kernel
theorem dX8_becomeLike_151 : decode cX8_becomeLike 151 = .ok (.invokestatic 81, 3) := by decide +kernel
theorem dX8_becomeLike_154 : decode cX8_becomeLike 154 = .ok (.aload_n 1, 1) := by decide +kernel
theorem dX8_becomeLike_155 : decode cX8_becomeLike 155 = .ok (.getfield 30, 3) := by decide +kernel
theorem dX8_becomeLike_158 : decode cX8_becomeLike 158 = .ok (.iconst 0, 1) := by decide +kernel
theorem dX8_becomeLike_159 : decode cX8_becomeLike 159 = .ok (.aload_n 0, 1) := by decide +kernel
theorem dX8_becomeLike_160 : decode cX8_becomeLike 160 = .ok (.getfield 30, 3) := by decide +kernel
theorem dX8_becomeLike_163 : decode cX8_becomeLike 163 = .ok (.iconst 0, 1) := by decide +kernel
theorem dX8_becomeLike_164 : decode cX8_becomeLike 164 = .ok (.bipush 6, 2) := by decide +kernel
theorem dX8_becomeLike_166 : decode cX8_becomeLike 166 = .ok (.invokestatic 81, 3) := by decide +kernel
theorem dX8_becomeLike_169 : decode cX8_becomeLike 169 = .ok (.aload_n 1, 1) := by decide +kernel
theorem dX8_becomeLike_170 : decode cX8_becomeLike 170 = .ok (.getfield 33, 3) := by decide +kernel
theorem dX8_becomeLike_173 : decode cX8_becomeLike 173 = .ok (.iconst 0, 1) := by decide +kernel
theorem dX8_becomeLike_174 : decode cX8_becomeLike 174 = .ok (.aload_n 0, 1) := by decide +kernel
theorem dX8_becomeLike_175 : decode cX8_becomeLike 175 = .ok (.getfield 33, 3) := by decide +kernel
theorem dX8_becomeLike_178 : decode cX8_becomeLike 178 = .ok (.iconst 0, 1) := by decide +kernel
theorem dX8_becomeLike_179 : decode cX8_becomeLike 179 = .ok (.bipush 6, 2) := by decide +kernel
theorem dX8_becomeLike_181 : decode cX8_becomeLike 181 = .ok (.invokestatic 81, 3) := by decide +kernel
theorem dX8_becomeLike_184 : decode cX8_becomeLike 184 = .ok (.aload_n 0, 1) := by decide +kernel
theorem dX8_becomeLike_185 : decode cX8_becomeLike 185 = .ok (.getfield 39, 3) := by decide +kernel
theorem dX8_becomeLike_188 : decode cX8_becomeLike 188 = .ok (.aload_n 1, 1) := by decide +kernel
theorem dX8_becomeLike_189 : decode cX8_becomeLike 189 = .ok (.getfield 39, 3) := by decide +kernel
theorem dX8_becomeLike_192 : decode cX8_becomeLike 192 = .ok (.invokevirtual 87, 3) := by decide +kernel
theorem dX8_becomeLike_195 : decode cX8_becomeLike 195 = .ok (.return_, 1) := by decide +kernel
theorem dX8_saveTo_0 : decode cX8_saveTo 0 = .ok (.aload_n 1, 1) := by decide +kernel
theorem dX8_saveTo_1 : decode cX8_saveTo 1 = .ok (.arraylength, 1) := by decide +kernel
theorem dX8_saveTo_2 : decode cX8_saveTo 2 = .ok (.bipush 9, 2) := by decide +kernel
theorem dX8_saveTo_4 : decode cX8_saveTo 4 = .ok (.if_icmp .ge 4, 3) := by decide +kernel
theorem dX8_saveTo_7 : decode cX8_saveTo 7 = .ok (.return_, 1) := by decide +kernel
theorem dX8_saveTo_8 : decode cX8_saveTo 8 = .ok (.aload_n 1, 1) := by decide +kernel
theorem dX8_saveTo_9 : decode cX8_saveTo 9 = .ok (.iconst 0, 1) := by decide +kernel
theorem dX8_saveTo_10 : decode cX8_saveTo 10 = .ok (.aload_n 0, 1) := by decide +kernel
theorem dX8_saveTo_11 : decode cX8_saveTo 11 = .ok (.getfield 66, 3) := by decide +kernel
theorem dX8_saveTo_14 : decode cX8_saveTo 14 = .ok (.iastore, 1) := by decide +kernel
theorem dX8_saveTo_15 : decode cX8_saveTo 15 = .ok (.aload_n 1, 1) := by decide +kernel
theorem dX8_saveTo_16 : decode cX8_saveTo 16 = .ok (.iconst 1, 1) := by decide +kernel
theorem dX8_saveTo_17 : decode cX8_saveTo 17 = .ok (.aload_n 0, 1) := by decide +kernel
theorem dX8_saveTo_18 : decode cX8_saveTo 18 = .ok (.getfield 69, 3) := by decide +kernel
theorem dX8_saveTo_21 : decode cX8_saveTo 21 = .ok (.iastore, 1) := by decide +kernel
theorem dX8_saveTo_22 : decode cX8_saveTo 22 = .ok (.aload_n 1, 1) := by decide +kernel
theorem dX8_saveTo_23 : decode cX8_saveTo 23 = .ok (.iconst 2, 1) := by decide +kernel
theorem dX8_saveTo_24 : decode cX8_saveTo 24 = .ok (.aload_n 0, 1) := by decide +kernel
theorem dX8_saveTo_25 : decode cX8_saveTo 25 = .ok (.getfield 75, 3) := by decide +kernel
theorem dX8_saveTo_28 : decode cX8_saveTo 28 = .ok (.iastore, 1) := by decide +kernel
theorem dX8_saveTo_29 : decode cX8_saveTo 29 = .ok (.aload_n 0, 1) := by decide +kernel
theorem dX8_saveTo_30 : decode cX8_saveTo 30 = .ok (.getfield 24, 3) := by decide +kernel
theorem dX8_saveTo_33 : decode cX8_saveTo 33 = .ok (.iconst 0, 1) := by decide +kernel
theorem dX8_saveTo_34 : decode cX8_saveTo 34 = .ok (.aload_n 1, 1) := by decide +kernel
theorem dX8_saveTo_35 : decode cX8_saveTo 35 = .ok (.iconst 3, 1) := by decide +kernel
theorem dX8_saveTo_36 : decode cX8_saveTo 36 = .ok (.bipush 6, 2) := by decide +kernel
theorem dX8_saveTo_38 : decode cX8_saveTo 38 = .ok (.invokestatic 81, 3) := by decide +kernel
theorem dX8_saveTo_41 : decode cX8_saveTo 41 = .ok (.return_, 1) := by decide +kernel
theorem dX8_comeBackTo_0 : decode cX8_comeBackTo 0 = .ok (.aload_n 1, 1) := by decide +kernel
theorem dX8_comeBackTo_1 : decode cX8_comeBackTo 1 = .ok (.arraylength, 1) := by decide +kernel
theorem dX8_comeBackTo_2 : decode cX8_comeBackTo 2 = .ok (.bipush 9, 2) := by decide +kernel
theorem dX8_comeBackTo_4 : decode cX8_comeBackTo 4 = .ok (.if_icmp .ge 4, 3) := by decide +kernel
theorem dX8_comeBackTo_7 : decode cX8_comeBackTo 7 = .ok (.return_, 1) := by decide +kernel
theorem dX8_comeBackTo_8 : decode cX8_comeBackTo 8 = .ok (.aload_n 0, 1) := by decide +kernel
theorem dX8_comeBackTo_9 : decode cX8_comeBackTo 9 = .ok (.aload_n 1, 1) := by decide +kernel
theorem dX8_comeBackTo_10 : decode cX8_comeBackTo 10 = .ok (.iconst 0, 1) := by decide +kernel
theorem dX8_comeBackTo_11 : decode cX8_comeBackTo 11 = .ok (.iaload, 1) := by decide +kernel
theorem dX8_comeBackTo_12 : decode cX8_comeBackTo 12 = .ok (.putfield 66, 3) := by decide +kernel
theorem dX8_comeBackTo_15 : decode cX8_comeBackTo 15 = .ok (.aload_n 0, 1) := by decide +kernel
theorem dX8_comeBackTo_16 : decode cX8_comeBackTo 16 = .ok (.aload_n 1, 1) := by decide +kernel
theorem dX8_comeBackTo_17 : decode cX8_comeBackTo 17 = .ok (.iconst 1, 1) := by decide +kernel
theorem dX8_comeBackTo_18 : decode cX8_comeBackTo 18 = .ok (.iaload, 1) := by decide +kernel
theorem dX8_comeBackTo_19 : decode cX8_comeBackTo 19 = .ok (.putfield 69, 3) := by decide +kernel
theorem dX8_comeBackTo_22 : decode cX8_comeBackTo 22 = .ok (.aload_n 0, 1) := by decide +kernel
theorem dX8_comeBackTo_23 : decode cX8_comeBackTo 23 = .ok (.aload_n 1, 1) := by decide +kernel
theorem dX8_comeBackTo_24 : decode cX8_comeBackTo 24 = .ok (.iconst 2, 1) := by decide +kernel
theorem dX8_comeBackTo_25 : decode cX8_comeBackTo 25 = .ok (.iaload, 1) := by decide +kernel
theorem dX8_comeBackTo_26 : decode cX8_comeBackTo 26 = .ok (.putfield 75, 3) := by decide +kernel
theorem dX8_comeBackTo_29 : decode cX8_comeBackTo 29 = .ok (.aload_n 1, 1) := by decide +kernel
theorem dX8_comeBackTo_30 : decode cX8_comeBackTo 30 = .ok (.iconst 3, 1) := by decide +kernel
theorem dX8_comeBackTo_31 : decode cX8_comeBackTo 31 = .ok (.aload_n 0, 1) := by decide +kernel
theorem dX8_comeBackTo_32 : decode cX8_comeBackTo 32 = .ok (.getfield 24, 3) := by decide +kernel
theorem dX8_comeBackTo_35 : decode cX8_comeBackTo 35 = .ok (.iconst 0, 1) := by decide +kernel
theorem dX8_comeBackTo_36 : decode cX8_comeBackTo 36 = .ok (.bipush 6, 2) := by decide +kernel
theorem dX8_comeBackTo_38 : decode cX8_comeBackTo 38 = .ok (.invokestatic 81, 3) := by decide +kernel
theorem dX8_comeBackTo_41 : decode cX8_comeBackTo 41 = .ok (.return_, 1) := by decide +kernel
theorem dX8_addVoice_0 : decode cX8_addVoice 0 = .ok (.aload_n 0, 1) := by decide +kernel
theorem dX8_addVoice_1 : decode cX8_addVoice 1 = .ok (.getfield 72, 3) := by decide +kernel
theorem dX8_addVoice_4 : decode cX8_addVoice 4 = .ok (.bipush 6, 2) := by decide +kernel
theorem dX8_addVoice_6 : decode cX8_addVoice 6 = .ok (.if_icmp .lt 6, 3) := by decide +kernel
theorem dX8_addVoice_9 : decode cX8_addVoice 9 = .ok (.bipush (-2), 2) := by decide +kernel
theorem dX8_addVoice_11 : decode cX8_addVoice 11 = .ok (.ireturn, 1) := by decide +kernel
theorem dX8_addVoice_12 : decode cX8_addVoice 12 = .ok (.aload_n 0, 1) := by decide +kernel
theorem dX8_addVoice_13 : decode cX8_addVoice 13 = .ok (.getfield 15, 3) := by decide +kernel
theorem dX8_addVoice_16 : decode cX8_addVoice 16 = .ok (.aload_n 0, 1) := by decide +kernel
theorem dX8_addVoice_17 : decode cX8_addVoice 17 = .ok (.getfield 72, 3) := by decide +kernel
theorem dX8_addVoice_20 : decode cX8_addVoice 20 = .ok (.iload_n 1, 1) := by decide +kernel
theorem dX8_addVoice_21 : decode cX8_addVoice 21 = .ok (.iastore, 1) := by decide +kernel
theorem dX8_addVoice_22 : decode cX8_addVoice 22 = .ok (.aload_n 0, 1) := by decide +kernel
theorem dX8_addVoice_23 : decode cX8_addVoice 23 = .ok (.getfield 18, 3) := by decide +kernel
theorem dX8_addVoice_26 : decode cX8_addVoice 26 = .ok (.aload_n 0, 1) := by decide +kernel
theorem dX8_addVoice_27 : decode cX8_addVoice 27 = .ok (.getfield 72, 3) := by decide +kernel
theorem dX8_addVoice_30 : decode cX8_addVoice 30 = .ok (.iload_n 2, 1) := by decide +kernel
theorem dX8_addVoice_31 : decode cX8_addVoice 31 = .ok (.iastore, 1) := by decide +kernel
theorem dX8_addVoice_32 : decode cX8_addVoice 32 = .ok (.aload_n 0, 1) := by decide +kernel
theorem dX8_addVoice_33 : decode cX8_addVoice 33 = .ok (.getfield 21, 3) := by decide +kernel
theorem dX8_addVoice_36 : decode cX8_addVoice 36 = .ok (.aload_n 0, 1) := by decide +kernel
theorem dX8_addVoice_37 : decode cX8_addVoice 37 = .ok (.getfield 72, 3) := by decide +kernel
theorem dX8_addVoice_40 : decode cX8_addVoice 40 = .ok (.iload_n 3, 1) := by decide +kernel
theorem dX8_addVoice_41 : decode cX8_addVoice 41 = .ok (.iastore, 1) := by decide +kernel
theorem dX8_addVoice_42 : decode cX8_addVoice 42 = .ok (.aload_n 0, 1) := by decide +kernel
theorem dX8_addVoice_43 : decode cX8_addVoice 43 = .ok (.getfield 24, 3) := by decide +kernel
theorem dX8_addVoice_46 : decode cX8_addVoice 46 = .ok (.aload_n 0, 1) := by decide +kernel
theorem dX8_addVoice_47 : decode cX8_addVoice 47 = .ok (.getfield 72, 3) := by decide +kernel
theorem dX8_addVoice_50 : decode cX8_addVoice 50 = .ok (.iload 4, 2) := by decide +kernel
theorem dX8_addVoice_52 : decode cX8_addVoice 52 = .ok (.iastore, 1) := by decide +kernel
theorem dX8_addVoice_53 : decode cX8_addVoice 53 = .ok (.aload_n 0, 1) := by decide +kernel
theorem dX8_addVoice_54 : decode cX8_addVoice 54 = .ok (.dup, 1) := by decide +kernel
theorem dX8_addVoice_55 : decode cX8_addVoice 55 = .ok (.getfield 72, 3) := by decide +kernel
theorem dX8_addVoice_58 : decode cX8_addVoice 58 = .ok (.iconst 1, 1) := by decide +kernel
theorem dX8_addVoice_59 : decode cX8_addVoice 59 = .ok (.iadd, 1) := by decide +kernel
theorem dX8_addVoice_60 : decode cX8_addVoice 60 = .ok (.putfield 72, 3) := by decide +kernel
theorem dX8_addVoice_63 : decode cX8_addVoice 63 = .ok (.aload_n 0, 1) := by decide +kernel
theorem dX8_addVoice_64 : decode cX8_addVoice 64 = .ok (.getfield 72, 3) := by decide +kernel
theorem dX8_addVoice_67 : decode cX8_addVoice 67 = .ok (.iconst 1, 1) := by decide +kernel
theorem dX8_addVoice_68 : decode cX8_addVoice 68 = .ok (.isub, 1) := by decide +kernel
theorem dX8_addVoice_69 : decode cX8_addVoice 69 = .ok (.ireturn, 1) := by decide +kernel
theorem dX8_addReport_0 : decode cX8_addReport 0 = .ok (.aload_n 0, 1) := by decide +kernel
theorem dX8_addReport_1 : decode cX8_addReport 1 = .ok (.getfield 78, 3) := by decide +kernel
theorem dX8_addReport_4 : decode cX8_addReport 4 = .ok (.bipush 6, 2) := by decide +kernel
theorem dX8_addReport_6 : decode cX8_addReport 6 = .ok (.if_icmp .lt 6, 3) := by decide +kernel
theorem dX8_addReport_9 : decode cX8_addReport 9 = .ok (.bipush (-2), 2) := by decide +kernel
theorem dX8_addReport_11 : decode cX8_addReport 11 = .ok (.ireturn, 1) := by decide +kernel
theorem dX8_addReport_12 : decode cX8_addReport 12 = .ok (.aload_n 0, 1) := by decide +kernel
theorem dX8_addReport_13 : decode cX8_addReport 13 = .ok (.getfield 27, 3) := by decide +kernel
theorem dX8_addReport_16 : decode cX8_addReport 16 = .ok (.aload_n 0, 1) := by decide +kernel
theorem dX8_addReport_17 : decode cX8_addReport 17 = .ok (.getfield 78, 3) := by decide +kernel
theorem dX8_addReport_20 : decode cX8_addReport 20 = .ok (.iload_n 1, 1) := by decide +kernel
theorem dX8_addReport_21 : decode cX8_addReport 21 = .ok (.iastore, 1) := by decide +kernel
theorem dX8_addReport_22 : decode cX8_addReport 22 = .ok (.aload_n 0, 1) := by decide +kernel
theorem dX8_addReport_23 : decode cX8_addReport 23 = .ok (.getfield 30, 3) := by decide +kernel
theorem dX8_addReport_26 : decode cX8_addReport 26 = .ok (.aload_n 0, 1) := by decide +kernel
theorem dX8_addReport_27 : decode cX8_addReport 27 = .ok (.getfield 78, 3) := by decide +kernel
theorem dX8_addReport_30 : decode cX8_addReport 30 = .ok (.iload_n 2, 1) := by decide +kernel
theorem dX8_addReport_31 : decode cX8_addReport 31 = .ok (.iastore, 1) := by decide +kernel
theorem dX8_addReport_32 : decode cX8_addReport 32 = .ok (.aload_n 0, 1) := by decide +kernel
theorem dX8_addReport_33 : decode cX8_addReport 33 = .ok (.getfield 33, 3) := by decide +kernel
theorem dX8_addReport_36 : decode cX8_addReport 36 = .ok (.aload_n 0, 1) := by decide +kernel
theorem dX8_addReport_37 : decode cX8_addReport 37 = .ok (.getfield 78, 3) := by decide +kernel
theorem dX8_addReport_40 : decode cX8_addReport 40 = .ok (.iload_n 3, 1) := by decide +kernel
theorem dX8_addReport_41 : decode cX8_addReport 41 = .ok (.iastore, 1) := by decide +kernel
theorem dX8_addReport_42 : decode cX8_addReport 42 = .ok (.aload_n 0, 1) := by decide +kernel
theorem dX8_addReport_43 : decode cX8_addReport 43 = .ok (.dup, 1) := by decide +kernel
theorem dX8_addReport_44 : decode cX8_addReport 44 = .ok (.getfield 78, 3) := by decide +kernel
theorem dX8_addReport_47 : decode cX8_addReport 47 = .ok (.iconst 1, 1) := by decide +kernel
theorem dX8_addReport_48 : decode cX8_addReport 48 = .ok (.iadd, 1) := by decide +kernel
theorem dX8_addReport_49 : decode cX8_addReport 49 = .ok (.putfield 78, 3) := by decide +kernel
theorem dX8_addReport_52 : decode cX8_addReport 52 = .ok (.aload_n 0, 1) := by decide +kernel
theorem dX8_addReport_53 : decode cX8_addReport 53 = .ok (.getfield 78, 3) := by decide +kernel
theorem dX8_addReport_56 : decode cX8_addReport 56 = .ok (.iconst 1, 1) := by decide +kernel
theorem dX8_addReport_57 : decode cX8_addReport 57 = .ok (.isub, 1) := by decide +kernel
theorem dX8_addReport_58 : decode cX8_addReport 58 = .ok (.ireturn, 1) := by decide +kernel
theorem dX8_has_0 : decode cX8_has 0 = .ok (.iload_n 1, 1) := by decide +kernel
theorem dX8_has_1 : decode cX8_has 1 = .ok (.ifCond .lt 15, 3) := by decide +kernel
theorem dX8_has_4 : decode cX8_has 4 = .ok (.iload_n 1, 1) := by decide +kernel
theorem dX8_has_5 : decode cX8_has 5 = .ok (.aload_n 0, 1) := by decide +kernel
theorem dX8_has_6 : decode cX8_has 6 = .ok (.getfield 72, 3) := by decide +kernel
theorem dX8_has_9 : decode cX8_has 9 = .ok (.if_icmp .ge 7, 3) := by decide +kernel
theorem dX8_has_12 : decode cX8_has 12 = .ok (.iconst 1, 1) := by decide +kernel
theorem dX8_has_13 : decode cX8_has 13 = .ok (.goto 4, 3) := by decide +kernel
theorem dX8_has_16 : decode cX8_has 16 = .ok (.iconst 0, 1) := by decide +kernel
theorem dX8_has_17 : decode cX8_has 17 = .ok (.ireturn, 1) := by decide +kernel
theorem dX8_hasAll_0 : decode cX8_hasAll 0 = .ok (.iload_n 1, 1) := by decide +kernel
theorem dX8_hasAll_1 : decode cX8_hasAll 1 = .ok (.ifCond .lt 17, 3) := by decide +kernel
theorem dX8_hasAll_4 : decode cX8_hasAll 4 = .ok (.iload_n 1, 1) := by decide +kernel
theorem dX8_hasAll_5 : decode cX8_hasAll 5 = .ok (.iconst 1, 1) := by decide +kernel
theorem dX8_hasAll_6 : decode cX8_hasAll 6 = .ok (.aload_n 0, 1) := by decide +kernel
theorem dX8_hasAll_7 : decode cX8_hasAll 7 = .ok (.getfield 72, 3) := by decide +kernel
theorem dX8_hasAll_10 : decode cX8_hasAll 10 = .ok (.ishl, 1) := by decide +kernel
theorem dX8_hasAll_11 : decode cX8_hasAll 11 = .ok (.if_icmp .ge 7, 3) := by decide +kernel
theorem dX8_hasAll_14 : decode cX8_hasAll 14 = .ok (.iconst 1, 1) := by decide +kernel
theorem dX8_hasAll_15 : decode cX8_hasAll 15 = .ok (.goto 4, 3) := by decide +kernel
theorem dX8_hasAll_18 : decode cX8_hasAll 18 = .ok (.iconst 0, 1) := by decide +kernel
theorem dX8_hasAll_19 : decode cX8_hasAll 19 = .ok (.ireturn, 1) := by decide +kernel
theorem dX8_isAct_0 : decode cX8_isAct 0 = .ok (.iload_n 1, 1) := by decide +kernel
theorem dX8_isAct_1 : decode cX8_isAct 1 = .ok (.ifCond .lt 15, 3) := by decide +kernel
theorem dX8_isAct_4 : decode cX8_isAct 4 = .ok (.iload_n 1, 1) := by decide +kernel
theorem dX8_isAct_5 : decode cX8_isAct 5 = .ok (.aload_n 0, 1) := by decide +kernel
theorem dX8_isAct_6 : decode cX8_isAct 6 = .ok (.getfield 72, 3) := by decide +kernel
theorem dX8_isAct_9 : decode cX8_isAct 9 = .ok (.if_icmp .gt 7, 3) := by decide +kernel
theorem dX8_isAct_12 : decode cX8_isAct 12 = .ok (.iconst 1, 1) := by decide +kernel
theorem dX8_isAct_13 : decode cX8_isAct 13 = .ok (.goto 4, 3) := by decide +kernel
theorem dX8_isAct_16 : decode cX8_isAct 16 = .ok (.iconst 0, 1) := by decide +kernel
theorem dX8_isAct_17 : decode cX8_isAct 17 = .ok (.ireturn, 1) := by decide +kernel
theorem dX8_isOver_0 : decode cX8_isOver 0 = .ok (.aload_n 0, 1) := by decide +kernel
theorem dX8_isOver_1 : decode cX8_isOver 1 = .ok (.getfield 66, 3) := by decide +kernel
theorem dX8_isOver_4 : decode cX8_isOver 4 = .ok (.aload_n 0, 1) := by decide +kernel
theorem dX8_isOver_5 : decode cX8_isOver 5 = .ok (.getfield 50, 3) := by decide +kernel
theorem dX8_isOver_8 : decode cX8_isOver 8 = .ok (.if_icmp .ge 12, 3) := by decide +kernel
theorem dX8_isOver_11 : decode cX8_isOver 11 = .ok (.aload_n 0, 1) := by decide +kernel
theorem dX8_isOver_12 : decode cX8_isOver 12 = .ok (.getfield 66, 3) := by decide +kernel
theorem dX8_isOver_15 : decode cX8_isOver 15 = .ok (.bipush 16, 2) := by decide +kernel
theorem dX8_isOver_17 : decode cX8_isOver 17 = .ok (.if_icmp .lt 7, 3) := by decide +kernel
theorem dX8_isOver_20 : decode cX8_isOver 20 = .ok (.iconst 1, 1) := by decide +kernel
theorem dX8_isOver_21 : decode cX8_isOver 21 = .ok (.goto 4, 3) := by decide +kernel
theorem dX8_isOver_24 : decode cX8_isOver 24 = .ok (.iconst 0, 1) := by decide +kernel
theorem dX8_isOver_25 : decode cX8_isOver 25 = .ok (.ireturn, 1) := by decide +kernel
theorem dX8_isCaught_0 : decode cX8_isCaught 0 = .ok (.aload_n 0, 1) := by decide +kernel
theorem dX8_isCaught_1 : decode cX8_isCaught 1 = .ok (.getfield 75, 3) := by decide +kernel
theorem dX8_isCaught_4 : decode cX8_isCaught 4 = .ok (.iload_n 1, 1) := by decide +kernel
theorem dX8_isCaught_5 : decode cX8_isCaught 5 = .ok (.ishr, 1) := by decide +kernel
theorem dX8_isCaught_6 : decode cX8_isCaught 6 = .ok (.iconst 1, 1) := by decide +kernel
theorem dX8_isCaught_7 : decode cX8_isCaught 7 = .ok (.iand, 1) := by decide +kernel
theorem dX8_isCaught_8 : decode cX8_isCaught 8 = .ok (.iconst 1, 1) := by decide +kernel
theorem dX8_isCaught_9 : decode cX8_isCaught 9 = .ok (.if_icmp .ne 7, 3) := by decide +kernel
theorem dX8_isCaught_12 : decode cX8_isCaught 12 = .ok (.iconst 1, 1) := by decide +kernel
theorem dX8_isCaught_13 : decode cX8_isCaught 13 = .ok (.goto 4, 3) := by decide +kernel
theorem dX8_isCaught_16 : decode cX8_isCaught 16 = .ok (.iconst 0, 1) := by decide +kernel
theorem dX8_isCaught_17 : decode cX8_isCaught 17 = .ok (.ireturn, 1) := by decide +kernel

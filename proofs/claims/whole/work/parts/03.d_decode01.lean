theorem dX8_markCaught_0 : decode cX8_markCaught 0 = .ok (.aload_n 0, 1) := by decide +kernel
theorem dX8_markCaught_1 : decode cX8_markCaught 1 = .ok (.iload_n 2, 1) := by decide +kernel
theorem dX8_markCaught_2 : decode cX8_markCaught 2 = .ok (.ifCond .eq 14, 3) := by decide +kernel
theorem dX8_markCaught_5 : decode cX8_markCaught 5 = .ok (.aload_n 0, 1) := by decide +kernel
theorem dX8_markCaught_6 : decode cX8_markCaught 6 = .ok (.getfield 75, 3) := by decide +kernel
theorem dX8_markCaught_9 : decode cX8_markCaught 9 = .ok (.iconst 1, 1) := by decide +kernel
theorem dX8_markCaught_10 : decode cX8_markCaught 10 = .ok (.iload_n 1, 1) := by decide +kernel
theorem dX8_markCaught_11 : decode cX8_markCaught 11 = .ok (.ishl, 1) := by decide +kernel
theorem dX8_markCaught_12 : decode cX8_markCaught 12 = .ok (.ior, 1) := by decide +kernel
theorem dX8_markCaught_13 : decode cX8_markCaught 13 = .ok (.goto 13, 3) := by decide +kernel
theorem dX8_markCaught_16 : decode cX8_markCaught 16 = .ok (.aload_n 0, 1) := by decide +kernel
theorem dX8_markCaught_17 : decode cX8_markCaught 17 = .ok (.getfield 75, 3) := by decide +kernel
theorem dX8_markCaught_20 : decode cX8_markCaught 20 = .ok (.iconst 1, 1) := by decide +kernel
theorem dX8_markCaught_21 : decode cX8_markCaught 21 = .ok (.iload_n 1, 1) := by decide +kernel
theorem dX8_markCaught_22 : decode cX8_markCaught 22 = .ok (.ishl, 1) := by decide +kernel
theorem dX8_markCaught_23 : decode cX8_markCaught 23 = .ok (.iconst (-1), 1) := by decide +kernel
theorem dX8_markCaught_24 : decode cX8_markCaught 24 = .ok (.ixor, 1) := by decide +kernel
theorem dX8_markCaught_25 : decode cX8_markCaught 25 = .ok (.iand, 1) := by decide +kernel
theorem dX8_markCaught_26 : decode cX8_markCaught 26 = .ok (.putfield 75, 3) := by decide +kernel
theorem dX8_markCaught_29 : decode cX8_markCaught 29 = .ok (.return_, 1) := by decide +kernel
theorem dX8_thing_0 : decode cX8_thing 0 = .ok (.aload_n 0, 1) := by decide +kernel
theorem dX8_thing_1 : decode cX8_thing 1 = .ok (.getfield 46, 3) := by decide +kernel
theorem dX8_thing_4 : decode cX8_thing 4 = .ok (.aload_n 0, 1) := by decide +kernel
theorem dX8_thing_5 : decode cX8_thing 5 = .ok (.getfield 15, 3) := by decide +kernel
theorem dX8_thing_8 : decode cX8_thing 8 = .ok (.iload_n 1, 1) := by decide +kernel
theorem dX8_thing_9 : decode cX8_thing 9 = .ok (.iaload, 1) := by decide +kernel
theorem dX8_thing_10 : decode cX8_thing 10 = .ok (.aaload, 1) := by decide +kernel
theorem dX8_thing_11 : decode cX8_thing 11 = .ok (.areturn, 1) := by decide +kernel
theorem dX8_driftOf_0 : decode cX8_driftOf 0 = .ok (.aload_n 0, 1) := by decide +kernel
theorem dX8_driftOf_1 : decode cX8_driftOf 1 = .ok (.iload_n 1, 1) := by decide +kernel
theorem dX8_driftOf_2 : decode cX8_driftOf 2 = .ok (.invokevirtual 91, 3) := by decide +kernel
theorem dX8_driftOf_5 : decode cX8_driftOf 5 = .ok (.aload_n 0, 1) := by decide +kernel
theorem dX8_driftOf_6 : decode cX8_driftOf 6 = .ok (.getfield 21, 3) := by decide +kernel
theorem dX8_driftOf_9 : decode cX8_driftOf 9 = .ok (.iload_n 1, 1) := by decide +kernel
theorem dX8_driftOf_10 : decode cX8_driftOf 10 = .ok (.iaload, 1) := by decide +kernel
theorem dX8_driftOf_11 : decode cX8_driftOf 11 = .ok (.aload_n 0, 1) := by decide +kernel
theorem dX8_driftOf_12 : decode cX8_driftOf 12 = .ok (.getfield 66, 3) := by decide +kernel
theorem dX8_driftOf_15 : decode cX8_driftOf 15 = .ok (.invokevirtual 95, 3) := by decide +kernel
theorem dX8_driftOf_18 : decode cX8_driftOf 18 = .ok (.ireturn, 1) := by decide +kernel
theorem dX8_isBursting_0 : decode cX8_isBursting 0 = .ok (.aload_n 0, 1) := by decide +kernel
theorem dX8_isBursting_1 : decode cX8_isBursting 1 = .ok (.iload_n 1, 1) := by decide +kernel
theorem dX8_isBursting_2 : decode cX8_isBursting 2 = .ok (.invokevirtual 91, 3) := by decide +kernel
theorem dX8_isBursting_5 : decode cX8_isBursting 5 = .ok (.aload_n 0, 1) := by decide +kernel
theorem dX8_isBursting_6 : decode cX8_isBursting 6 = .ok (.getfield 21, 3) := by decide +kernel
theorem dX8_isBursting_9 : decode cX8_isBursting 9 = .ok (.iload_n 1, 1) := by decide +kernel
theorem dX8_isBursting_10 : decode cX8_isBursting 10 = .ok (.iaload, 1) := by decide +kernel
theorem dX8_isBursting_11 : decode cX8_isBursting 11 = .ok (.invokevirtual 101, 3) := by decide +kernel
theorem dX8_isBursting_14 : decode cX8_isBursting 14 = .ok (.ireturn, 1) := by decide +kernel
theorem dX8_willOf_0 : decode cX8_willOf 0 = .ok (.aload_n 0, 1) := by decide +kernel
theorem dX8_willOf_1 : decode cX8_willOf 1 = .ok (.getfield 43, 3) := by decide +kernel
theorem dX8_willOf_4 : decode cX8_willOf 4 = .ok (.iconst 0, 1) := by decide +kernel
theorem dX8_willOf_5 : decode cX8_willOf 5 = .ok (.aload_n 0, 1) := by decide +kernel
theorem dX8_willOf_6 : decode cX8_willOf 6 = .ok (.getfield 66, 3) := by decide +kernel
theorem dX8_willOf_9 : decode cX8_willOf 9 = .ok (.iastore, 1) := by decide +kernel
theorem dX8_willOf_10 : decode cX8_willOf 10 = .ok (.aload_n 0, 1) := by decide +kernel
theorem dX8_willOf_11 : decode cX8_willOf 11 = .ok (.getfield 43, 3) := by decide +kernel
theorem dX8_willOf_14 : decode cX8_willOf 14 = .ok (.iconst 1, 1) := by decide +kernel
theorem dX8_willOf_15 : decode cX8_willOf 15 = .ok (.aload_n 0, 1) := by decide +kernel
theorem dX8_willOf_16 : decode cX8_willOf 16 = .ok (.getfield 18, 3) := by decide +kernel
theorem dX8_willOf_19 : decode cX8_willOf 19 = .ok (.iload_n 1, 1) := by decide +kernel
theorem dX8_willOf_20 : decode cX8_willOf 20 = .ok (.iaload, 1) := by decide +kernel
theorem dX8_willOf_21 : decode cX8_willOf 21 = .ok (.iastore, 1) := by decide +kernel
theorem dX8_willOf_22 : decode cX8_willOf 22 = .ok (.aload_n 0, 1) := by decide +kernel
theorem dX8_willOf_23 : decode cX8_willOf 23 = .ok (.getfield 43, 3) := by decide +kernel
theorem dX8_willOf_26 : decode cX8_willOf 26 = .ok (.iconst 2, 1) := by decide +kernel
theorem dX8_willOf_27 : decode cX8_willOf 27 = .ok (.aload_n 0, 1) := by decide +kernel
theorem dX8_willOf_28 : decode cX8_willOf 28 = .ok (.getfield 21, 3) := by decide +kernel
theorem dX8_willOf_31 : decode cX8_willOf 31 = .ok (.iload_n 1, 1) := by decide +kernel
theorem dX8_willOf_32 : decode cX8_willOf 32 = .ok (.iaload, 1) := by decide +kernel
theorem dX8_willOf_33 : decode cX8_willOf 33 = .ok (.iastore, 1) := by decide +kernel
theorem dX8_willOf_34 : decode cX8_willOf 34 = .ok (.aload_n 0, 1) := by decide +kernel
theorem dX8_willOf_35 : decode cX8_willOf 35 = .ok (.getfield 43, 3) := by decide +kernel
theorem dX8_willOf_38 : decode cX8_willOf 38 = .ok (.iconst 3, 1) := by decide +kernel
theorem dX8_willOf_39 : decode cX8_willOf 39 = .ok (.aload_n 0, 1) := by decide +kernel
theorem dX8_willOf_40 : decode cX8_willOf 40 = .ok (.getfield 24, 3) := by decide +kernel
theorem dX8_willOf_43 : decode cX8_willOf 43 = .ok (.iload_n 1, 1) := by decide +kernel
theorem dX8_willOf_44 : decode cX8_willOf 44 = .ok (.iaload, 1) := by decide +kernel
theorem dX8_willOf_45 : decode cX8_willOf 45 = .ok (.iastore, 1) := by decide +kernel
theorem dX8_willOf_46 : decode cX8_willOf 46 = .ok (.aload_n 0, 1) := by decide +kernel
theorem dX8_willOf_47 : decode cX8_willOf 47 = .ok (.getfield 43, 3) := by decide +kernel
theorem dX8_willOf_50 : decode cX8_willOf 50 = .ok (.iconst 4, 1) := by decide +kernel
theorem dX8_willOf_51 : decode cX8_willOf 51 = .ok (.iload_n 1, 1) := by decide +kernel
theorem dX8_willOf_52 : decode cX8_willOf 52 = .ok (.iastore, 1) := by decide +kernel
theorem dX8_willOf_53 : decode cX8_willOf 53 = .ok (.aload_n 0, 1) := by decide +kernel
theorem dX8_willOf_54 : decode cX8_willOf 54 = .ok (.getfield 39, 3) := by decide +kernel
theorem dX8_willOf_57 : decode cX8_willOf 57 = .ok (.aload_n 0, 1) := by decide +kernel
theorem dX8_willOf_58 : decode cX8_willOf 58 = .ok (.getfield 15, 3) := by decide +kernel
theorem dX8_willOf_61 : decode cX8_willOf 61 = .ok (.iload_n 1, 1) := by decide +kernel
theorem dX8_willOf_62 : decode cX8_willOf 62 = .ok (.iaload, 1) := by decide +kernel
theorem dX8_willOf_63 : decode cX8_willOf 63 = .ok (.aload_n 0, 1) := by decide +kernel
theorem dX8_willOf_64 : decode cX8_willOf 64 = .ok (.getfield 43, 3) := by decide +kernel
theorem dX8_willOf_67 : decode cX8_willOf 67 = .ok (.invokevirtual 105, 3) := by decide +kernel
theorem dX8_willOf_70 : decode cX8_willOf 70 = .ok (.ireturn, 1) := by decide +kernel
theorem dX8_drifted_0 : decode cX8_drifted 0 = .ok (.iload_n 3, 1) := by decide +kernel
theorem dX8_drifted_1 : decode cX8_drifted 1 = .ok (.invokestatic 109, 3) := by decide +kernel
theorem dX8_drifted_4 : decode cX8_drifted 4 = .ok (.ifCond .ne 5, 3) := by decide +kernel
theorem dX8_drifted_7 : decode cX8_drifted 7 = .ok (.iload_n 1, 1) := by decide +kernel
theorem dX8_drifted_8 : decode cX8_drifted 8 = .ok (.ireturn, 1) := by decide +kernel
theorem dX8_drifted_9 : decode cX8_drifted 9 = .ok (.aload_n 0, 1) := by decide +kernel
theorem dX8_drifted_10 : decode cX8_drifted 10 = .ok (.getfield 9, 3) := by decide +kernel
theorem dX8_drifted_13 : decode cX8_drifted 13 = .ok (.iload_n 3, 1) := by decide +kernel
theorem dX8_drifted_14 : decode cX8_drifted 14 = .ok (.iaload, 1) := by decide +kernel
theorem dX8_drifted_15 : decode cX8_drifted 15 = .ok (.lookupswitch 42 #[(1, 25), (2, 34)], 25) := by decide +kernel
theorem dX8_drifted_40 : decode cX8_drifted 40 = .ok (.bipush 15, 2) := by decide +kernel
theorem dX8_drifted_42 : decode cX8_drifted 42 = .ok (.iload_n 1, 1) := by decide +kernel
theorem dX8_drifted_43 : decode cX8_drifted 43 = .ok (.iload_n 2, 1) := by decide +kernel
theorem dX8_drifted_44 : decode cX8_drifted 44 = .ok (.iadd, 1) := by decide +kernel
theorem dX8_drifted_45 : decode cX8_drifted 45 = .ok (.invokestatic 112, 3) := by decide +kernel
theorem dX8_drifted_48 : decode cX8_drifted 48 = .ok (.ireturn, 1) := by decide +kernel
theorem dX8_drifted_49 : decode cX8_drifted 49 = .ok (.iconst 0, 1) := by decide +kernel
theorem dX8_drifted_50 : decode cX8_drifted 50 = .ok (.iload_n 1, 1) := by decide +kernel
theorem dX8_drifted_51 : decode cX8_drifted 51 = .ok (.iload_n 2, 1) := by decide +kernel
theorem dX8_drifted_52 : decode cX8_drifted 52 = .ok (.isub, 1) := by decide +kernel
theorem dX8_drifted_53 : decode cX8_drifted 53 = .ok (.invokestatic 117, 3) := by decide +kernel
theorem dX8_drifted_56 : decode cX8_drifted 56 = .ok (.ireturn, 1) := by decide +kernel
theorem dX8_drifted_57 : decode cX8_drifted 57 = .ok (.iload_n 1, 1) := by decide +kernel
theorem dX8_drifted_58 : decode cX8_drifted 58 = .ok (.ireturn, 1) := by decide +kernel
theorem dX8_leastAct_0 : decode cX8_leastAct 0 = .ok (.iconst 0, 1) := by decide +kernel
theorem dX8_leastAct_1 : decode cX8_leastAct 1 = .ok (.istore_n 1, 1) := by decide +kernel
theorem dX8_leastAct_2 : decode cX8_leastAct 2 = .ok (.iload_n 1, 1) := by decide +kernel
theorem dX8_leastAct_3 : decode cX8_leastAct 3 = .ok (.aload_n 0, 1) := by decide +kernel
theorem dX8_leastAct_4 : decode cX8_leastAct 4 = .ok (.getfield 72, 3) := by decide +kernel
theorem dX8_leastAct_7 : decode cX8_leastAct 7 = .ok (.if_icmp .ge 21, 3) := by decide +kernel
theorem dX8_leastAct_10 : decode cX8_leastAct 10 = .ok (.aload_n 0, 1) := by decide +kernel
theorem dX8_leastAct_11 : decode cX8_leastAct 11 = .ok (.iload_n 1, 1) := by decide +kernel
theorem dX8_leastAct_12 : decode cX8_leastAct 12 = .ok (.invokevirtual 120, 3) := by decide +kernel
theorem dX8_leastAct_15 : decode cX8_leastAct 15 = .ok (.ifCond .ne 7, 3) := by decide +kernel
theorem dX8_leastAct_18 : decode cX8_leastAct 18 = .ok (.iload_n 1, 1) := by decide +kernel
theorem dX8_leastAct_19 : decode cX8_leastAct 19 = .ok (.iconst 1, 1) := by decide +kernel
theorem dX8_leastAct_20 : decode cX8_leastAct 20 = .ok (.iadd, 1) := by decide +kernel
theorem dX8_leastAct_21 : decode cX8_leastAct 21 = .ok (.ireturn, 1) := by decide +kernel
theorem dX8_leastAct_22 : decode cX8_leastAct 22 = .ok (.iinc 1 1, 3) := by decide +kernel
theorem dX8_leastAct_25 : decode cX8_leastAct 25 = .ok (.goto (-23), 3) := by decide +kernel
theorem dX8_leastAct_28 : decode cX8_leastAct 28 = .ok (.iconst 0, 1) := by decide +kernel
theorem dX8_leastAct_29 : decode cX8_leastAct 29 = .ok (.ireturn, 1) := by decide +kernel
theorem dX8_drawLot_0 : decode cX8_drawLot 0 = .ok (.aload_n 0, 1) := by decide +kernel
theorem dX8_drawLot_1 : decode cX8_drawLot 1 = .ok (.aload_n 0, 1) := by decide +kernel
theorem dX8_drawLot_2 : decode cX8_drawLot 2 = .ok (.getfield 57, 3) := by decide +kernel
theorem dX8_drawLot_5 : decode cX8_drawLot 5 = .ok (.ldc 123, 2) := by decide +kernel
theorem dX8_drawLot_7 : decode cX8_drawLot 7 = .ok (.imul, 1) := by decide +kernel
theorem dX8_drawLot_8 : decode cX8_drawLot 8 = .ok (.sipush 12345, 3) := by decide +kernel
theorem dX8_drawLot_11 : decode cX8_drawLot 11 = .ok (.iadd, 1) := by decide +kernel
theorem dX8_drawLot_12 : decode cX8_drawLot 12 = .ok (.putfield 57, 3) := by decide +kernel
theorem dX8_drawLot_15 : decode cX8_drawLot 15 = .ok (.aload_n 0, 1) := by decide +kernel
theorem dX8_drawLot_16 : decode cX8_drawLot 16 = .ok (.getfield 72, 3) := by decide +kernel
theorem dX8_drawLot_19 : decode cX8_drawLot 19 = .ok (.iconst 1, 1) := by decide +kernel
theorem dX8_drawLot_20 : decode cX8_drawLot 20 = .ok (.iadd, 1) := by decide +kernel
theorem dX8_drawLot_21 : decode cX8_drawLot 21 = .ok (.istore_n 1, 1) := by decide +kernel
theorem dX8_drawLot_22 : decode cX8_drawLot 22 = .ok (.iload_n 1, 1) := by decide +kernel
theorem dX8_drawLot_23 : decode cX8_drawLot 23 = .ok (.ifCond .le 15, 3) := by decide +kernel
theorem dX8_drawLot_26 : decode cX8_drawLot 26 = .ok (.aload_n 0, 1) := by decide +kernel
theorem dX8_drawLot_27 : decode cX8_drawLot 27 = .ok (.getfield 57, 3) := by decide +kernel
theorem dX8_drawLot_30 : decode cX8_drawLot 30 = .ok (.bipush 16, 2) := by decide +kernel
theorem dX8_drawLot_32 : decode cX8_drawLot 32 = .ok (.iushr, 1) := by decide +kernel
theorem dX8_drawLot_33 : decode cX8_drawLot 33 = .ok (.iload_n 1, 1) := by decide +kernel
theorem dX8_drawLot_34 : decode cX8_drawLot 34 = .ok (.irem, 1) := by decide +kernel
theorem dX8_drawLot_35 : decode cX8_drawLot 35 = .ok (.goto 4, 3) := by decide +kernel
theorem dX8_drawLot_38 : decode cX8_drawLot 38 = .ok (.iconst 0, 1) := by decide +kernel
theorem dX8_drawLot_39 : decode cX8_drawLot 39 = .ok (.ireturn, 1) := by decide +kernel
theorem dX8_goBy_0 : decode cX8_goBy 0 = .ok (.aload_n 0, 1) := by decide +kernel
theorem dX8_goBy_1 : decode cX8_goBy 1 = .ok (.invokevirtual 124, 3) := by decide +kernel
theorem dX8_goBy_4 : decode cX8_goBy 4 = .ok (.ifCond .eq 5, 3) := by decide +kernel
theorem dX8_goBy_7 : decode cX8_goBy 7 = .ok (.iconst 0, 1) := by decide +kernel
theorem dX8_goBy_8 : decode cX8_goBy 8 = .ok (.ireturn, 1) := by decide +kernel
theorem dX8_goBy_9 : decode cX8_goBy 9 = .ok (.aload_n 0, 1) := by decide +kernel
theorem dX8_goBy_10 : decode cX8_goBy 10 = .ok (.invokevirtual 128, 3) := by decide +kernel
theorem dX8_goBy_13 : decode cX8_goBy 13 = .ok (.aload_n 0, 1) := by decide +kernel
theorem dX8_goBy_14 : decode cX8_goBy 14 = .ok (.iload_n 1, 1) := by decide +kernel
theorem dX8_goBy_15 : decode cX8_goBy 15 = .ok (.invokevirtual 131, 3) := by decide +kernel
theorem dX8_goBy_18 : decode cX8_goBy 18 = .ok (.ireturn, 1) := by decide +kernel
theorem dX8_drift_0 : decode cX8_drift 0 = .ok (.iconst 0, 1) := by decide +kernel
theorem dX8_drift_1 : decode cX8_drift 1 = .ok (.istore_n 1, 1) := by decide +kernel
theorem dX8_drift_2 : decode cX8_drift 2 = .ok (.iload_n 1, 1) := by decide +kernel
theorem dX8_drift_3 : decode cX8_drift 3 = .ok (.aload_n 0, 1) := by decide +kernel
theorem dX8_drift_4 : decode cX8_drift 4 = .ok (.getfield 72, 3) := by decide +kernel
theorem dX8_drift_7 : decode cX8_drift 7 = .ok (.if_icmp .ge 42, 3) := by decide +kernel
theorem dX8_drift_10 : decode cX8_drift 10 = .ok (.aload_n 0, 1) := by decide +kernel
theorem dX8_drift_11 : decode cX8_drift 11 = .ok (.iload_n 1, 1) := by decide +kernel
theorem dX8_drift_12 : decode cX8_drift 12 = .ok (.invokevirtual 120, 3) := by decide +kernel
theorem dX8_drift_15 : decode cX8_drift 15 = .ok (.ifCond .ne 28, 3) := by decide +kernel
theorem dX8_drift_18 : decode cX8_drift 18 = .ok (.aload_n 0, 1) := by decide +kernel
theorem dX8_drift_19 : decode cX8_drift 19 = .ok (.getfield 24, 3) := by decide +kernel
theorem dX8_drift_22 : decode cX8_drift 22 = .ok (.iload_n 1, 1) := by decide +kernel
theorem dX8_drift_23 : decode cX8_drift 23 = .ok (.aload_n 0, 1) := by decide +kernel
theorem dX8_drift_24 : decode cX8_drift 24 = .ok (.aload_n 0, 1) := by decide +kernel
theorem dX8_drift_25 : decode cX8_drift 25 = .ok (.getfield 24, 3) := by decide +kernel
theorem dX8_drift_28 : decode cX8_drift 28 = .ok (.iload_n 1, 1) := by decide +kernel
theorem dX8_drift_29 : decode cX8_drift 29 = .ok (.iaload, 1) := by decide +kernel
theorem dX8_drift_30 : decode cX8_drift 30 = .ok (.aload_n 0, 1) := by decide +kernel
theorem dX8_drift_31 : decode cX8_drift 31 = .ok (.iload_n 1, 1) := by decide +kernel
theorem dX8_drift_32 : decode cX8_drift 32 = .ok (.invokevirtual 135, 3) := by decide +kernel
theorem dX8_drift_35 : decode cX8_drift 35 = .ok (.aload_n 0, 1) := by decide +kernel
theorem dX8_drift_36 : decode cX8_drift 36 = .ok (.getfield 66, 3) := by decide +kernel
theorem dX8_drift_39 : decode cX8_drift 39 = .ok (.invokevirtual 138, 3) := by decide +kernel
theorem dX8_drift_42 : decode cX8_drift 42 = .ok (.iastore, 1) := by decide +kernel
theorem dX8_drift_43 : decode cX8_drift 43 = .ok (.iinc 1 1, 3) := by decide +kernel
theorem dX8_drift_46 : decode cX8_drift 46 = .ok (.goto (-44), 3) := by decide +kernel
theorem dX8_drift_49 : decode cX8_drift 49 = .ok (.return_, 1) := by decide +kernel
theorem dX8_cast_0 : decode cX8_cast 0 = .ok (.aload_n 0, 1) := by decide +kernel
theorem dX8_cast_1 : decode cX8_cast 1 = .ok (.iload_n 1, 1) := by decide +kernel
theorem dX8_cast_2 : decode cX8_cast 2 = .ok (.iconst 1, 1) := by decide +kernel
theorem dX8_cast_3 : decode cX8_cast 3 = .ok (.isub, 1) := by decide +kernel
theorem dX8_cast_4 : decode cX8_cast 4 = .ok (.invokevirtual 142, 3) := by decide +kernel
theorem dX8_cast_7 : decode cX8_cast 7 = .ok (.ifCond .eq 28, 3) := by decide +kernel
theorem dX8_cast_10 : decode cX8_cast 10 = .ok (.aload_n 0, 1) := by decide +kernel
theorem dX8_cast_11 : decode cX8_cast 11 = .ok (.iload_n 1, 1) := by decide +kernel
theorem dX8_cast_12 : decode cX8_cast 12 = .ok (.iconst 1, 1) := by decide +kernel
theorem dX8_cast_13 : decode cX8_cast 13 = .ok (.isub, 1) := by decide +kernel
theorem dX8_cast_14 : decode cX8_cast 14 = .ok (.invokevirtual 120, 3) := by decide +kernel
theorem dX8_cast_17 : decode cX8_cast 17 = .ok (.ifCond .ne 18, 3) := by decide +kernel
theorem dX8_cast_20 : decode cX8_cast 20 = .ok (.aload_n 0, 1) := by decide +kernel
theorem dX8_cast_21 : decode cX8_cast 21 = .ok (.aload_n 0, 1) := by decide +kernel
theorem dX8_cast_22 : decode cX8_cast 22 = .ok (.getfield 24, 3) := by decide +kernel
theorem dX8_cast_25 : decode cX8_cast 25 = .ok (.iload_n 1, 1) := by decide +kernel
theorem dX8_cast_26 : decode cX8_cast 26 = .ok (.iconst 1, 1) := by decide +kernel
theorem dX8_cast_27 : decode cX8_cast 27 = .ok (.isub, 1) := by decide +kernel
theorem dX8_cast_28 : decode cX8_cast 28 = .ok (.iaload, 1) := by decide +kernel
theorem dX8_cast_29 : decode cX8_cast 29 = .ok (.invokevirtual 145, 3) := by decide +kernel
theorem dX8_cast_32 : decode cX8_cast 32 = .ok (.goto 4, 3) := by decide +kernel
theorem dX8_cast_35 : decode cX8_cast 35 = .ok (.iconst 0, 1) := by decide +kernel
theorem dX8_cast_36 : decode cX8_cast 36 = .ok (.istore_n 2, 1) := by decide +kernel
theorem dX8_cast_37 : decode cX8_cast 37 = .ok (.aload_n 0, 1) := by decide +kernel
theorem dX8_cast_38 : decode cX8_cast 38 = .ok (.dup, 1) := by decide +kernel
theorem dX8_cast_39 : decode cX8_cast 39 = .ok (.getfield 69, 3) := by decide +kernel
theorem dX8_cast_42 : decode cX8_cast 42 = .ok (.iload_n 2, 1) := by decide +kernel
theorem dX8_cast_43 : decode cX8_cast 43 = .ok (.iadd, 1) := by decide +kernel
theorem dX8_cast_44 : decode cX8_cast 44 = .ok (.putfield 69, 3) := by decide +kernel
theorem dX8_cast_47 : decode cX8_cast 47 = .ok (.aload_n 0, 1) := by decide +kernel
theorem dX8_cast_48 : decode cX8_cast 48 = .ok (.dup, 1) := by decide +kernel
theorem dX8_cast_49 : decode cX8_cast 49 = .ok (.getfield 66, 3) := by decide +kernel
theorem dX8_cast_52 : decode cX8_cast 52 = .ok (.iconst 1, 1) := by decide +kernel
theorem dX8_cast_53 : decode cX8_cast 53 = .ok (.iadd, 1) := by decide +kernel
theorem dX8_cast_54 : decode cX8_cast 54 = .ok (.putfield 66, 3) := by decide +kernel
theorem dX8_cast_57 : decode cX8_cast 57 = .ok (.iload_n 2, 1) := by decide +kernel
theorem dX8_cast_58 : decode cX8_cast 58 = .ok (.ireturn, 1) := by decide +kernel
theorem dX8_worthOfNet_0 : decode cX8_worthOfNet 0 = .ok (.iconst 0, 1) := by decide +kernel
theorem dX8_worthOfNet_1 : decode cX8_worthOfNet 1 = .ok (.istore_n 2, 1) := by decide +kernel
theorem dX8_worthOfNet_2 : decode cX8_worthOfNet 2 = .ok (.iconst 0, 1) := by decide +kernel
theorem dX8_worthOfNet_3 : decode cX8_worthOfNet 3 = .ok (.istore_n 3, 1) := by decide +kernel
theorem dX8_worthOfNet_4 : decode cX8_worthOfNet 4 = .ok (.iload_n 3, 1) := by decide +kernel
theorem dX8_worthOfNet_5 : decode cX8_worthOfNet 5 = .ok (.aload_n 0, 1) := by decide +kernel
theorem dX8_worthOfNet_6 : decode cX8_worthOfNet 6 = .ok (.getfield 72, 3) := by decide +kernel
theorem dX8_worthOfNet_9 : decode cX8_worthOfNet 9 = .ok (.if_icmp .ge 48, 3) := by decide +kernel
theorem dX8_worthOfNet_12 : decode cX8_worthOfNet 12 = .ok (.aload_n 0, 1) := by decide +kernel
theorem dX8_worthOfNet_13 : decode cX8_worthOfNet 13 = .ok (.iload_n 3, 1) := by decide +kernel
theorem dX8_worthOfNet_14 : decode cX8_worthOfNet 14 = .ok (.invokevirtual 120, 3) := by decide +kernel
theorem dX8_worthOfNet_17 : decode cX8_worthOfNet 17 = .ok (.ifCond .ne 34, 3) := by decide +kernel
theorem dX8_worthOfNet_20 : decode cX8_worthOfNet 20 = .ok (.aload_n 0, 1) := by decide +kernel
theorem dX8_worthOfNet_21 : decode cX8_worthOfNet 21 = .ok (.getfield 24, 3) := by decide +kernel
theorem dX8_worthOfNet_24 : decode cX8_worthOfNet 24 = .ok (.iload_n 3, 1) := by decide +kernel
theorem dX8_worthOfNet_25 : decode cX8_worthOfNet 25 = .ok (.iaload, 1) := by decide +kernel
theorem dX8_worthOfNet_26 : decode cX8_worthOfNet 26 = .ok (.iload_n 1, 1) := by decide +kernel
theorem dX8_worthOfNet_27 : decode cX8_worthOfNet 27 = .ok (.isub, 1) := by decide +kernel
theorem dX8_worthOfNet_28 : decode cX8_worthOfNet 28 = .ok (.invokestatic 148, 3) := by decide +kernel
theorem dX8_worthOfNet_31 : decode cX8_worthOfNet 31 = .ok (.iconst 1, 1) := by decide +kernel
theorem dX8_worthOfNet_32 : decode cX8_worthOfNet 32 = .ok (.if_icmp .gt 19, 3) := by decide +kernel
theorem dX8_worthOfNet_35 : decode cX8_worthOfNet 35 = .ok (.aload_n 0, 1) := by decide +kernel
theorem dX8_worthOfNet_36 : decode cX8_worthOfNet 36 = .ok (.iload_n 3, 1) := by decide +kernel
theorem dX8_worthOfNet_37 : decode cX8_worthOfNet 37 = .ok (.invokevirtual 151, 3) := by decide +kernel
theorem dX8_worthOfNet_40 : decode cX8_worthOfNet 40 = .ok (.ifCond .eq 5, 3) := by decide +kernel
theorem dX8_worthOfNet_43 : decode cX8_worthOfNet 43 = .ok (.iconst 0, 1) := by decide +kernel
theorem dX8_worthOfNet_44 : decode cX8_worthOfNet 44 = .ok (.ireturn, 1) := by decide +kernel
theorem dX8_worthOfNet_45 : decode cX8_worthOfNet 45 = .ok (.iload_n 2, 1) := by decide +kernel
theorem dX8_worthOfNet_46 : decode cX8_worthOfNet 46 = .ok (.iconst 1, 1) := by decide +kernel
theorem dX8_worthOfNet_47 : decode cX8_worthOfNet 47 = .ok (.iload_n 3, 1) := by decide +kernel
theorem dX8_worthOfNet_48 : decode cX8_worthOfNet 48 = .ok (.ishl, 1) := by decide +kernel
theorem dX8_worthOfNet_49 : decode cX8_worthOfNet 49 = .ok (.ior, 1) := by decide +kernel
theorem dX8_worthOfNet_50 : decode cX8_worthOfNet 50 = .ok (.istore_n 2, 1) := by decide +kernel
theorem dX8_worthOfNet_51 : decode cX8_worthOfNet 51 = .ok (.iinc 3 1, 3) := by decide +kernel
theorem dX8_worthOfNet_54 : decode cX8_worthOfNet 54 = .ok (.goto (-50), 3) := by decide +kernel
theorem dX8_worthOfNet_57 : decode cX8_worthOfNet 57 = .ok (.iconst 0, 1) := by decide +kernel
theorem dX8_worthOfNet_58 : decode cX8_worthOfNet 58 = .ok (.istore_n 3, 1) := by decide +kernel
theorem dX8_worthOfNet_59 : decode cX8_worthOfNet 59 = .ok (.iconst 0, 1) := by decide +kernel
theorem dX8_worthOfNet_60 : decode cX8_worthOfNet 60 = .ok (.istore 4, 2) := by decide +kernel
theorem dX8_worthOfNet_62 : decode cX8_worthOfNet 62 = .ok (.iload 4, 2) := by decide +kernel
theorem dX8_worthOfNet_64 : decode cX8_worthOfNet 64 = .ok (.aload_n 0, 1) := by decide +kernel
theorem dX8_worthOfNet_65 : decode cX8_worthOfNet 65 = .ok (.getfield 72, 3) := by decide +kernel
theorem dX8_worthOfNet_68 : decode cX8_worthOfNet 68 = .ok (.if_icmp .ge 82, 3) := by decide +kernel
theorem dX8_worthOfNet_71 : decode cX8_worthOfNet 71 = .ok (.iload_n 2, 1) := by decide +kernel
theorem dX8_worthOfNet_72 : decode cX8_worthOfNet 72 = .ok (.iload 4, 2) := by decide +kernel
theorem dX8_worthOfNet_74 : decode cX8_worthOfNet 74 = .ok (.ishr, 1) := by decide +kernel
theorem dX8_worthOfNet_75 : decode cX8_worthOfNet 75 = .ok (.iconst 1, 1) := by decide +kernel
theorem dX8_worthOfNet_76 : decode cX8_worthOfNet 76 = .ok (.iand, 1) := by decide +kernel
theorem dX8_worthOfNet_77 : decode cX8_worthOfNet 77 = .ok (.iconst 1, 1) := by decide +kernel
theorem dX8_worthOfNet_78 : decode cX8_worthOfNet 78 = .ok (.if_icmp .ne 66, 3) := by decide +kernel
theorem dX8_worthOfNet_81 : decode cX8_worthOfNet 81 = .ok (.aload_n 0, 1) := by decide +kernel
theorem dX8_worthOfNet_82 : decode cX8_worthOfNet 82 = .ok (.getfield 21, 3) := by decide +kernel
theorem dX8_worthOfNet_85 : decode cX8_worthOfNet 85 = .ok (.iload 4, 2) := by decide +kernel
theorem dX8_worthOfNet_87 : decode cX8_worthOfNet 87 = .ok (.iaload, 1) := by decide +kernel
theorem dX8_worthOfNet_88 : decode cX8_worthOfNet 88 = .ok (.aload_n 0, 1) := by decide +kernel
theorem dX8_worthOfNet_89 : decode cX8_worthOfNet 89 = .ok (.getfield 54, 3) := by decide +kernel
theorem dX8_worthOfNet_92 : decode cX8_worthOfNet 92 = .ok (.if_icmp .le 52, 3) := by decide +kernel
theorem dX8_worthOfNet_95 : decode cX8_worthOfNet 95 = .ok (.aload_n 0, 1) := by decide +kernel
theorem dX8_worthOfNet_96 : decode cX8_worthOfNet 96 = .ok (.iload 4, 2) := by decide +kernel
theorem dX8_worthOfNet_98 : decode cX8_worthOfNet 98 = .ok (.invokevirtual 154, 3) := by decide +kernel
theorem dX8_worthOfNet_101 : decode cX8_worthOfNet 101 = .ok (.istore 5, 2) := by decide +kernel
theorem dX8_worthOfNet_103 : decode cX8_worthOfNet 103 = .ok (.iload_n 3, 1) := by decide +kernel
theorem dX8_worthOfNet_104 : decode cX8_worthOfNet 104 = .ok (.iload 5, 2) := by decide +kernel
theorem dX8_worthOfNet_106 : decode cX8_worthOfNet 106 = .ok (.aload_n 0, 1) := by decide +kernel
theorem dX8_worthOfNet_107 : decode cX8_worthOfNet 107 = .ok (.iload 4, 2) := by decide +kernel
theorem dX8_worthOfNet_109 : decode cX8_worthOfNet 109 = .ok (.invokevirtual 91, 3) := by decide +kernel
theorem dX8_worthOfNet_112 : decode cX8_worthOfNet 112 = .ok (.aload_n 0, 1) := by decide +kernel
theorem dX8_worthOfNet_113 : decode cX8_worthOfNet 113 = .ok (.getfield 21, 3) := by decide +kernel
theorem dX8_worthOfNet_116 : decode cX8_worthOfNet 116 = .ok (.iload 4, 2) := by decide +kernel
theorem dX8_worthOfNet_118 : decode cX8_worthOfNet 118 = .ok (.iaload, 1) := by decide +kernel
theorem dX8_worthOfNet_119 : decode cX8_worthOfNet 119 = .ok (.invokevirtual 157, 3) := by decide +kernel
theorem dX8_worthOfNet_122 : decode cX8_worthOfNet 122 = .ok (.invokestatic 160, 3) := by decide +kernel
theorem dX8_worthOfNet_125 : decode cX8_worthOfNet 125 = .ok (.iadd, 1) := by decide +kernel
theorem dX8_worthOfNet_126 : decode cX8_worthOfNet 126 = .ok (.istore_n 3, 1) := by decide +kernel
theorem dX8_worthOfNet_127 : decode cX8_worthOfNet 127 = .ok (.aload_n 0, 1) := by decide +kernel
theorem dX8_worthOfNet_128 : decode cX8_worthOfNet 128 = .ok (.iload 4, 2) := by decide +kernel
theorem dX8_worthOfNet_130 : decode cX8_worthOfNet 130 = .ok (.iload 5, 2) := by decide +kernel
theorem dX8_worthOfNet_132 : decode cX8_worthOfNet 132 = .ok (.iconst 1, 1) := by decide +kernel
theorem dX8_worthOfNet_133 : decode cX8_worthOfNet 133 = .ok (.if_icmp .eq 7, 3) := by decide +kernel
theorem dX8_worthOfNet_136 : decode cX8_worthOfNet 136 = .ok (.iconst 1, 1) := by decide +kernel
theorem dX8_worthOfNet_137 : decode cX8_worthOfNet 137 = .ok (.goto 4, 3) := by decide +kernel
theorem dX8_worthOfNet_140 : decode cX8_worthOfNet 140 = .ok (.iconst 0, 1) := by decide +kernel
theorem dX8_worthOfNet_141 : decode cX8_worthOfNet 141 = .ok (.invokevirtual 163, 3) := by decide +kernel
theorem dX8_worthOfNet_144 : decode cX8_worthOfNet 144 = .ok (.iinc 4 1, 3) := by decide +kernel
theorem dX8_worthOfNet_147 : decode cX8_worthOfNet 147 = .ok (.goto (-85), 3) := by decide +kernel
theorem dX8_worthOfNet_150 : decode cX8_worthOfNet 150 = .ok (.iload_n 3, 1) := by decide +kernel
theorem dX8_worthOfNet_151 : decode cX8_worthOfNet 151 = .ok (.ireturn, 1) := by decide +kernel
theorem dX8_worthOf_0 : decode cX8_worthOf 0 = .ok (.iload_n 0, 1) := by decide +kernel
theorem dX8_worthOf_1 : decode cX8_worthOf 1 = .ok (.lookupswitch 35 #[(1, 27), (2, 29)], 27) := by decide +kernel
theorem dX8_worthOf_28 : decode cX8_worthOf 28 = .ok (.iconst 1, 1) := by decide +kernel
theorem dX8_worthOf_29 : decode cX8_worthOf 29 = .ok (.ireturn, 1) := by decide +kernel
theorem dX8_worthOf_30 : decode cX8_worthOf 30 = .ok (.iload_n 1, 1) := by decide +kernel
theorem dX8_worthOf_31 : decode cX8_worthOf 31 = .ok (.iconst 2, 1) := by decide +kernel
theorem dX8_worthOf_32 : decode cX8_worthOf 32 = .ok (.idiv, 1) := by decide +kernel
theorem dX8_worthOf_33 : decode cX8_worthOf 33 = .ok (.iconst 3, 1) := by decide +kernel
theorem dX8_worthOf_34 : decode cX8_worthOf 34 = .ok (.iadd, 1) := by decide +kernel
theorem dX8_worthOf_35 : decode cX8_worthOf 35 = .ok (.ireturn, 1) := by decide +kernel
theorem dX8_worthOf_36 : decode cX8_worthOf 36 = .ok (.iload_n 1, 1) := by decide +kernel
theorem dX8_worthOf_37 : decode cX8_worthOf 37 = .ok (.ireturn, 1) := by decide +kernel
theorem dX9_init_0 : decode cX9_init 0 = .ok (.aload_n 0, 1) := by decide +kernel
theorem dX9_init_1 : decode cX9_init 1 = .ok (.invokespecial 1, 3) := by decide +kernel
theorem dX9_init_4 : decode cX9_init 4 = .ok (.aload_n 0, 1) := by decide +kernel
theorem dX9_init_5 : decode cX9_init 5 = .ok (.bipush 30, 2) := by decide +kernel
theorem dX9_init_7 : decode cX9_init 7 = .ok (.newarray .int, 2) := by decide +kernel
theorem dX9_init_9 : decode cX9_init 9 = .ok (.putfield 7, 3) := by decide +kernel
theorem dX9_init_12 : decode cX9_init 12 = .ok (.return_, 1) := by decide +kernel
theorem dX9_begin_0 : decode cX9_begin 0 = .ok (.aload_n 0, 1) := by decide +kernel
theorem dX9_begin_1 : decode cX9_begin 1 = .ok (.iload_n 1, 1) := by decide +kernel
theorem dX9_begin_2 : decode cX9_begin 2 = .ok (.putfield 13, 3) := by decide +kernel
theorem dX9_begin_5 : decode cX9_begin 5 = .ok (.aload_n 0, 1) := by decide +kernel
theorem dX9_begin_6 : decode cX9_begin 6 = .ok (.iload_n 2, 1) := by decide +kernel
theorem dX9_begin_7 : decode cX9_begin 7 = .ok (.putfield 17, 3) := by decide +kernel
theorem dX9_begin_10 : decode cX9_begin 10 = .ok (.aload_n 0, 1) := by decide +kernel
theorem dX9_begin_11 : decode cX9_begin 11 = .ok (.iconst 0, 1) := by decide +kernel
theorem dX9_begin_12 : decode cX9_begin 12 = .ok (.putfield 20, 3) := by decide +kernel
theorem dX9_begin_15 : decode cX9_begin 15 = .ok (.aload_n 0, 1) := by decide +kernel
theorem dX9_begin_16 : decode cX9_begin 16 = .ok (.iconst 0, 1) := by decide +kernel
theorem dX9_begin_17 : decode cX9_begin 17 = .ok (.putfield 24, 3) := by decide +kernel
theorem dX9_begin_20 : decode cX9_begin 20 = .ok (.return_, 1) := by decide +kernel
theorem dX9_began_0 : decode cX9_began 0 = .ok (.aload_n 0, 1) := by decide +kernel
theorem dX9_began_1 : decode cX9_began 1 = .ok (.getfield 20, 3) := by decide +kernel
theorem dX9_began_4 : decode cX9_began 4 = .ok (.ifCond .ne 35, 3) := by decide +kernel
theorem dX9_began_7 : decode cX9_began 7 = .ok (.aload_n 0, 1) := by decide +kernel
theorem dX9_began_8 : decode cX9_began 8 = .ok (.getfield 24, 3) := by decide +kernel
theorem dX9_began_11 : decode cX9_began 11 = .ok (.aload_n 0, 1) := by decide +kernel
theorem dX9_began_12 : decode cX9_began 12 = .ok (.getfield 7, 3) := by decide +kernel
theorem dX9_began_15 : decode cX9_began 15 = .ok (.arraylength, 1) := by decide +kernel
theorem dX9_began_16 : decode cX9_began 16 = .ok (.if_icmp .ge 23, 3) := by decide +kernel
theorem dX9_began_19 : decode cX9_began 19 = .ok (.aload_n 0, 1) := by decide +kernel
theorem dX9_began_20 : decode cX9_began 20 = .ok (.getfield 7, 3) := by decide +kernel
theorem dX9_began_23 : decode cX9_began 23 = .ok (.aload_n 0, 1) := by decide +kernel
theorem dX9_began_24 : decode cX9_began 24 = .ok (.getfield 24, 3) := by decide +kernel
theorem dX9_began_27 : decode cX9_began 27 = .ok (.iload_n 1, 1) := by decide +kernel
theorem dX9_began_28 : decode cX9_began 28 = .ok (.iastore, 1) := by decide +kernel
theorem dX9_began_29 : decode cX9_began 29 = .ok (.aload_n 0, 1) := by decide +kernel
theorem dX9_began_30 : decode cX9_began 30 = .ok (.dup, 1) := by decide +kernel
theorem dX9_began_31 : decode cX9_began 31 = .ok (.getfield 24, 3) := by decide +kernel
theorem dX9_began_34 : decode cX9_began 34 = .ok (.iconst 1, 1) := by decide +kernel
theorem dX9_began_35 : decode cX9_began 35 = .ok (.iadd, 1) := by decide +kernel
theorem dX9_began_36 : decode cX9_began 36 = .ok (.putfield 24, 3) := by decide +kernel
theorem dX9_began_39 : decode cX9_began 39 = .ok (.return_, 1) := by decide +kernel
theorem dX10_init_0 : decode cX10_init 0 = .ok (.aload_n 0, 1) := by decide +kernel
theorem dX10_init_1 : decode cX10_init 1 = .ok (.invokespecial 1, 3) := by decide +kernel
theorem dX10_init_4 : decode cX10_init 4 = .ok (.return_, 1) := by decide +kernel
theorem dX10_drifts_0 : decode cX10_drifts 0 = .ok (.iconst 1, 1) := by decide +kernel
theorem dX10_drifts_1 : decode cX10_drifts 1 = .ok (.ireturn, 1) := by decide +kernel
theorem dX10_price_0 : decode cX10_price 0 = .ok (.iload_n 1, 1) := by decide +kernel
theorem dX10_price_1 : decode cX10_price 1 = .ok (.ireturn, 1) := by decide +kernel
theorem dX10_bursts_0 : decode cX10_bursts 0 = .ok (.iconst 0, 1) := by decide +kernel
theorem dX10_bursts_1 : decode cX10_bursts 1 = .ok (.ireturn, 1) := by decide +kernel
theorem dX10_hums_0 : decode cX10_hums 0 = .ok (.aload_n 1, 1) := by decide +kernel
theorem dX10_hums_1 : decode cX10_hums 1 = .ok (.bipush 10, 2) := by decide +kernel
theorem dX10_hums_3 : decode cX10_hums 3 = .ok (.invokevirtual 7, 3) := by decide +kernel
theorem dX10_hums_6 : decode cX10_hums 6 = .ok (.iload_n 2, 1) := by decide +kernel
theorem dX10_hums_7 : decode cX10_hums 7 = .ok (.iconst 3, 1) := by decide +kernel
theorem dX10_hums_8 : decode cX10_hums 8 = .ok (.imul, 1) := by decide +kernel
theorem dX10_hums_9 : decode cX10_hums 9 = .ok (.aload_n 1, 1) := by decide +kernel
theorem dX10_hums_10 : decode cX10_hums 10 = .ok (.getfield 13, 3) := by decide +kernel
theorem dX10_hums_13 : decode cX10_hums 13 = .ok (.isub, 1) := by decide +kernel
theorem dX10_hums_14 : decode cX10_hums 14 = .ok (.ireturn, 1) := by decide +kernel
theorem dX10_calls_0 : decode cX10_calls 0 = .ok (.aload_n 1, 1) := by decide +kernel
theorem dX10_calls_1 : decode cX10_calls 1 = .ok (.bipush 11, 2) := by decide +kernel
theorem dX10_calls_3 : decode cX10_calls 3 = .ok (.invokevirtual 7, 3) := by decide +kernel
theorem dX10_calls_6 : decode cX10_calls 6 = .ok (.aload_n 0, 1) := by decide +kernel
theorem dX10_calls_7 : decode cX10_calls 7 = .ok (.aload_n 1, 1) := by decide +kernel
theorem dX10_calls_8 : decode cX10_calls 8 = .ok (.iload_n 2, 1) := by decide +kernel
theorem dX10_calls_9 : decode cX10_calls 9 = .ok (.invokevirtual 17, 3) := by decide +kernel
theorem dX10_calls_12 : decode cX10_calls 12 = .ok (.aload_n 1, 1) := by decide +kernel
theorem dX10_calls_13 : decode cX10_calls 13 = .ok (.getfield 23, 3) := by decide +kernel
theorem dX10_calls_16 : decode cX10_calls 16 = .ok (.iadd, 1) := by decide +kernel
theorem dX10_calls_17 : decode cX10_calls 17 = .ok (.ireturn, 1) := by decide +kernel
theorem dX10_parts_0 : decode cX10_parts 0 = .ok (.aload_n 1, 1) := by decide +kernel
theorem dX10_parts_1 : decode cX10_parts 1 = .ok (.bipush 12, 2) := by decide +kernel
theorem dX10_parts_3 : decode cX10_parts 3 = .ok (.invokevirtual 7, 3) := by decide +kernel
theorem dX10_parts_6 : decode cX10_parts 6 = .ok (.aload_n 1, 1) := by decide +kernel
theorem dX10_parts_7 : decode cX10_parts 7 = .ok (.getfield 13, 3) := by decide +kernel
theorem dX10_parts_10 : decode cX10_parts 10 = .ok (.aload_n 1, 1) := by decide +kernel
theorem dX10_parts_11 : decode cX10_parts 11 = .ok (.getfield 23, 3) := by decide +kernel
theorem dX10_parts_14 : decode cX10_parts 14 = .ok (.isub, 1) := by decide +kernel
theorem dX10_parts_15 : decode cX10_parts 15 = .ok (.istore_n 3, 1) := by decide +kernel
theorem dX10_parts_16 : decode cX10_parts 16 = .ok (.iload_n 3, 1) := by decide +kernel
theorem dX10_parts_17 : decode cX10_parts 17 = .ok (.ifCond .ne 10, 3) := by decide +kernel
theorem dX10_parts_20 : decode cX10_parts 20 = .ok (.aload_n 1, 1) := by decide +kernel
theorem dX10_parts_21 : decode cX10_parts 21 = .ok (.iconst 1, 1) := by decide +kernel
theorem dX10_parts_22 : decode cX10_parts 22 = .ok (.putfield 26, 3) := by decide +kernel
theorem dX10_parts_25 : decode cX10_parts 25 = .ok (.iconst 0, 1) := by decide +kernel
theorem dX10_parts_26 : decode cX10_parts 26 = .ok (.ireturn, 1) := by decide +kernel
theorem dX10_parts_27 : decode cX10_parts 27 = .ok (.iload_n 2, 1) := by decide +kernel
theorem dX10_parts_28 : decode cX10_parts 28 = .ok (.iload_n 3, 1) := by decide +kernel
theorem dX10_parts_29 : decode cX10_parts 29 = .ok (.idiv, 1) := by decide +kernel
theorem dX10_parts_30 : decode cX10_parts 30 = .ok (.ireturn, 1) := by decide +kernel
theorem dX10_rings_0 : decode cX10_rings 0 = .ok (.aload_n 1, 1) := by decide +kernel
theorem dX10_rings_1 : decode cX10_rings 1 = .ok (.bipush 13, 2) := by decide +kernel
theorem dX10_rings_3 : decode cX10_rings 3 = .ok (.invokevirtual 7, 3) := by decide +kernel
theorem dX10_rings_6 : decode cX10_rings 6 = .ok (.aload_n 0, 1) := by decide +kernel
theorem dX10_rings_7 : decode cX10_rings 7 = .ok (.aload_n 1, 1) := by decide +kernel
theorem dX10_rings_8 : decode cX10_rings 8 = .ok (.iload_n 2, 1) := by decide +kernel
theorem dX10_rings_9 : decode cX10_rings 9 = .ok (.invokevirtual 30, 3) := by decide +kernel
theorem dX10_rings_12 : decode cX10_rings 12 = .ok (.aload_n 0, 1) := by decide +kernel
theorem dX10_rings_13 : decode cX10_rings 13 = .ok (.aload_n 1, 1) := by decide +kernel
theorem dX10_rings_14 : decode cX10_rings 14 = .ok (.iload_n 2, 1) := by decide +kernel
theorem dX10_rings_15 : decode cX10_rings 15 = .ok (.invokevirtual 33, 3) := by decide +kernel
theorem dX10_rings_18 : decode cX10_rings 18 = .ok (.ixor, 1) := by decide +kernel
theorem dX10_rings_19 : decode cX10_rings 19 = .ok (.ireturn, 1) := by decide +kernel
theorem dX11_init_0 : decode cX11_init 0 = .ok (.aload_n 0, 1) := by decide +kernel
theorem dX11_init_1 : decode cX11_init 1 = .ok (.invokespecial 1, 3) := by decide +kernel
theorem dX11_init_4 : decode cX11_init 4 = .ok (.bipush 6, 2) := by decide +kernel
theorem dX11_init_6 : decode cX11_init 6 = .ok (.anewarray 7, 3) := by decide +kernel
theorem dX11_init_9 : decode cX11_init 9 = .ok (.dup, 1) := by decide +kernel
theorem dX11_init_10 : decode cX11_init 10 = .ok (.iconst 0, 1) := by decide +kernel
theorem dX11_init_11 : decode cX11_init 11 = .ok (.new 7, 3) := by decide +kernel
theorem dX11_init_14 : decode cX11_init 14 = .ok (.dup, 1) := by decide +kernel
theorem dX11_init_15 : decode cX11_init 15 = .ok (.invokespecial 9, 3) := by decide +kernel
theorem dX11_init_18 : decode cX11_init 18 = .ok (.aastore, 1) := by decide +kernel
theorem dX11_init_19 : decode cX11_init 19 = .ok (.dup, 1) := by decide +kernel
theorem dX11_init_20 : decode cX11_init 20 = .ok (.iconst 1, 1) := by decide +kernel
theorem dX11_init_21 : decode cX11_init 21 = .ok (.new 10, 3) := by decide +kernel
theorem dX11_init_24 : decode cX11_init 24 = .ok (.dup, 1) := by decide +kernel
theorem dX11_init_25 : decode cX11_init 25 = .ok (.invokespecial 12, 3) := by decide +kernel
theorem dX11_init_28 : decode cX11_init 28 = .ok (.aastore, 1) := by decide +kernel
theorem dX11_init_29 : decode cX11_init 29 = .ok (.dup, 1) := by decide +kernel
theorem dX11_init_30 : decode cX11_init 30 = .ok (.iconst 2, 1) := by decide +kernel
theorem dX11_init_31 : decode cX11_init 31 = .ok (.new 13, 3) := by decide +kernel
theorem dX11_init_34 : decode cX11_init 34 = .ok (.dup, 1) := by decide +kernel
theorem dX11_init_35 : decode cX11_init 35 = .ok (.invokespecial 15, 3) := by decide +kernel
theorem dX11_init_38 : decode cX11_init 38 = .ok (.aastore, 1) := by decide +kernel
theorem dX11_init_39 : decode cX11_init 39 = .ok (.dup, 1) := by decide +kernel
theorem dX11_init_40 : decode cX11_init 40 = .ok (.iconst 3, 1) := by decide +kernel
theorem dX11_init_41 : decode cX11_init 41 = .ok (.new 16, 3) := by decide +kernel
theorem dX11_init_44 : decode cX11_init 44 = .ok (.dup, 1) := by decide +kernel
theorem dX11_init_45 : decode cX11_init 45 = .ok (.invokespecial 18, 3) := by decide +kernel
theorem dX11_init_48 : decode cX11_init 48 = .ok (.aastore, 1) := by decide +kernel
theorem dX11_init_49 : decode cX11_init 49 = .ok (.dup, 1) := by decide +kernel
theorem dX11_init_50 : decode cX11_init 50 = .ok (.iconst 4, 1) := by decide +kernel
theorem dX11_init_51 : decode cX11_init 51 = .ok (.new 19, 3) := by decide +kernel
theorem dX11_init_54 : decode cX11_init 54 = .ok (.dup, 1) := by decide +kernel
theorem dX11_init_55 : decode cX11_init 55 = .ok (.invokespecial 21, 3) := by decide +kernel
theorem dX11_init_58 : decode cX11_init 58 = .ok (.aastore, 1) := by decide +kernel
theorem dX11_init_59 : decode cX11_init 59 = .ok (.dup, 1) := by decide +kernel
theorem dX11_init_60 : decode cX11_init 60 = .ok (.iconst 5, 1) := by decide +kernel
theorem dX11_init_61 : decode cX11_init 61 = .ok (.new 22, 3) := by decide +kernel
theorem dX11_init_64 : decode cX11_init 64 = .ok (.dup, 1) := by decide +kernel
theorem dX11_init_65 : decode cX11_init 65 = .ok (.invokespecial 24, 3) := by decide +kernel
theorem dX11_init_68 : decode cX11_init 68 = .ok (.aastore, 1) := by decide +kernel
theorem dX11_init_69 : decode cX11_init 69 = .ok (.astore_n 1, 1) := by decide +kernel
theorem dX11_init_70 : decode cX11_init 70 = .ok (.aload_n 0, 1) := by decide +kernel
theorem dX11_init_71 : decode cX11_init 71 = .ok (.new 25, 3) := by decide +kernel
theorem dX11_init_74 : decode cX11_init 74 = .ok (.dup, 1) := by decide +kernel
theorem dX11_init_75 : decode cX11_init 75 = .ok (.aload_n 1, 1) := by decide +kernel
theorem dX11_init_76 : decode cX11_init 76 = .ok (.invokespecial 27, 3) := by decide +kernel
theorem dX11_init_79 : decode cX11_init 79 = .ok (.putfield 30, 3) := by decide +kernel
theorem dX11_init_82 : decode cX11_init 82 = .ok (.aload_n 0, 1) := by decide +kernel
theorem dX11_init_83 : decode cX11_init 83 = .ok (.new 25, 3) := by decide +kernel
theorem dX11_init_86 : decode cX11_init 86 = .ok (.dup, 1) := by decide +kernel
theorem dX11_init_87 : decode cX11_init 87 = .ok (.aload_n 1, 1) := by decide +kernel
theorem dX11_init_88 : decode cX11_init 88 = .ok (.invokespecial 27, 3) := by decide +kernel
theorem dX11_init_91 : decode cX11_init 91 = .ok (.putfield 36, 3) := by decide +kernel
theorem dX11_init_94 : decode cX11_init 94 = .ok (.aload_n 0, 1) := by decide +kernel
theorem dX11_init_95 : decode cX11_init 95 = .ok (.iconst 0, 1) := by decide +kernel
theorem dX11_init_96 : decode cX11_init 96 = .ok (.putfield 39, 3) := by decide +kernel
theorem dX11_init_99 : decode cX11_init 99 = .ok (.aload_n 0, 1) := by decide +kernel
theorem dX11_init_100 : decode cX11_init 100 = .ok (.new 43, 3) := by decide +kernel
theorem dX11_init_103 : decode cX11_init 103 = .ok (.dup, 1) := by decide +kernel
theorem dX11_init_104 : decode cX11_init 104 = .ok (.invokespecial 45, 3) := by decide +kernel
theorem dX11_init_107 : decode cX11_init 107 = .ok (.putfield 46, 3) := by decide +kernel
theorem dX11_init_110 : decode cX11_init 110 = .ok (.aload_n 0, 1) := by decide +kernel
theorem dX11_init_111 : decode cX11_init 111 = .ok (.new 50, 3) := by decide +kernel
theorem dX11_init_114 : decode cX11_init 114 = .ok (.dup, 1) := by decide +kernel
theorem dX11_init_115 : decode cX11_init 115 = .ok (.aload_n 0, 1) := by decide +kernel
theorem dX11_init_116 : decode cX11_init 116 = .ok (.getfield 30, 3) := by decide +kernel
theorem dX11_init_119 : decode cX11_init 119 = .ok (.invokespecial 52, 3) := by decide +kernel
theorem dX11_init_122 : decode cX11_init 122 = .ok (.putfield 55, 3) := by decide +kernel
theorem dX11_init_125 : decode cX11_init 125 = .ok (.aload_n 0, 1) := by decide +kernel
theorem dX11_init_126 : decode cX11_init 126 = .ok (.new 59, 3) := by decide +kernel
theorem dX11_init_129 : decode cX11_init 129 = .ok (.dup, 1) := by decide +kernel
theorem dX11_init_130 : decode cX11_init 130 = .ok (.invokespecial 61, 3) := by decide +kernel
theorem dX11_init_133 : decode cX11_init 133 = .ok (.putfield 62, 3) := by decide +kernel
theorem dX11_init_136 : decode cX11_init 136 = .ok (.aload_n 0, 1) := by decide +kernel
theorem dX11_init_137 : decode cX11_init 137 = .ok (.iconst 4, 1) := by decide +kernel
theorem dX11_init_138 : decode cX11_init 138 = .ok (.newarray .int, 2) := by decide +kernel
theorem dX11_init_140 : decode cX11_init 140 = .ok (.putfield 66, 3) := by decide +kernel
theorem dX11_init_143 : decode cX11_init 143 = .ok (.aload_n 0, 1) := by decide +kernel
theorem dX11_init_144 : decode cX11_init 144 = .ok (.getfield 66, 3) := by decide +kernel
theorem dX11_init_147 : decode cX11_init 147 = .ok (.iconst (-1), 1) := by decide +kernel
theorem dX11_init_148 : decode cX11_init 148 = .ok (.invokestatic 70, 3) := by decide +kernel
theorem dX11_init_151 : decode cX11_init 151 = .ok (.aload_n 0, 1) := by decide +kernel
theorem dX11_init_152 : decode cX11_init 152 = .ok (.iconst 4, 1) := by decide +kernel
theorem dX11_init_153 : decode cX11_init 153 = .ok (.newarray .int, 2) := by decide +kernel
theorem dX11_init_155 : decode cX11_init 155 = .ok (.putfield 76, 3) := by decide +kernel
theorem dX11_init_158 : decode cX11_init 158 = .ok (.aload_n 0, 1) := by decide +kernel
theorem dX11_init_159 : decode cX11_init 159 = .ok (.iconst 4, 1) := by decide +kernel
theorem dX11_init_160 : decode cX11_init 160 = .ok (.bipush 40, 2) := by decide +kernel
theorem dX11_init_162 : decode cX11_init 162 = .ok (.multianewarray 79 2, 4) := by decide +kernel
theorem dX11_init_166 : decode cX11_init 166 = .ok (.putfield 81, 3) := by decide +kernel
theorem dX11_init_169 : decode cX11_init 169 = .ok (.aload_n 0, 1) := by decide +kernel
theorem dX11_init_170 : decode cX11_init 170 = .ok (.iconst 4, 1) := by decide +kernel
theorem dX11_init_171 : decode cX11_init 171 = .ok (.newarray .int, 2) := by decide +kernel
theorem dX11_init_173 : decode cX11_init 173 = .ok (.putfield 84, 3) := by decide +kernel
theorem dX11_init_176 : decode cX11_init 176 = .ok (.aload_n 0, 1) := by decide +kernel
theorem dX11_init_177 : decode cX11_init 177 = .ok (.getfield 84, 3) := by decide +kernel
theorem dX11_init_180 : decode cX11_init 180 = .ok (.iconst 2, 1) := by decide +kernel
theorem dX11_init_181 : decode cX11_init 181 = .ok (.invokestatic 70, 3) := by decide +kernel
theorem dX11_init_184 : decode cX11_init 184 = .ok (.aload_n 0, 1) := by decide +kernel
theorem dX11_init_185 : decode cX11_init 185 = .ok (.iconst 4, 1) := by decide +kernel
theorem dX11_init_186 : decode cX11_init 186 = .ok (.newarray .int, 2) := by decide +kernel
theorem dX11_init_188 : decode cX11_init 188 = .ok (.putfield 87, 3) := by decide +kernel
theorem dX11_init_191 : decode cX11_init 191 = .ok (.aload_n 0, 1) := by decide +kernel
theorem dX11_init_192 : decode cX11_init 192 = .ok (.iconst 4, 1) := by decide +kernel
theorem dX11_init_193 : decode cX11_init 193 = .ok (.newarray .int, 2) := by decide +kernel
theorem dX11_init_195 : decode cX11_init 195 = .ok (.putfield 90, 3) := by decide +kernel
theorem dX11_init_198 : decode cX11_init 198 = .ok (.return_, 1) := by decide +kernel
theorem dX11_voice_0 : decode cX11_voice 0 = .ok (.iload_n 1, 1) := by decide +kernel
theorem dX11_voice_1 : decode cX11_voice 1 = .ok (.invokestatic 93, 3) := by decide +kernel
theorem dX11_voice_4 : decode cX11_voice 4 = .ok (.ifCond .eq 29, 3) := by decide +kernel
theorem dX11_voice_7 : decode cX11_voice 7 = .ok (.iload_n 2, 1) := by decide +kernel
theorem dX11_voice_8 : decode cX11_voice 8 = .ok (.invokestatic 97, 3) := by decide +kernel
theorem dX11_voice_11 : decode cX11_voice 11 = .ok (.ifCond .eq 22, 3) := by decide +kernel
theorem dX11_voice_14 : decode cX11_voice 14 = .ok (.iload_n 3, 1) := by decide +kernel
theorem dX11_voice_15 : decode cX11_voice 15 = .ok (.invokestatic 100, 3) := by decide +kernel
theorem dX11_voice_18 : decode cX11_voice 18 = .ok (.ifCond .eq 15, 3) := by decide +kernel
theorem dX11_voice_21 : decode cX11_voice 21 = .ok (.iload 4, 2) := by decide +kernel
theorem dX11_voice_23 : decode cX11_voice 23 = .ok (.invokestatic 103, 3) := by decide +kernel
theorem dX11_voice_26 : decode cX11_voice 26 = .ok (.ifCond .eq 7, 3) := by decide +kernel
theorem dX11_voice_29 : decode cX11_voice 29 = .ok (.iconst 1, 1) := by decide +kernel
theorem dX11_voice_30 : decode cX11_voice 30 = .ok (.goto 4, 3) := by decide +kernel
theorem dX11_voice_33 : decode cX11_voice 33 = .ok (.iconst 0, 1) := by decide +kernel
theorem dX11_voice_34 : decode cX11_voice 34 = .ok (.istore 5, 2) := by decide +kernel
theorem dX11_voice_36 : decode cX11_voice 36 = .ok (.iload 5, 2) := by decide +kernel
theorem dX11_voice_38 : decode cX11_voice 38 = .ok (.ifCond .eq 18, 3) := by decide +kernel
theorem dX11_voice_41 : decode cX11_voice 41 = .ok (.aload_n 0, 1) := by decide +kernel
theorem dX11_voice_42 : decode cX11_voice 42 = .ok (.getfield 30, 3) := by decide +kernel
theorem dX11_voice_45 : decode cX11_voice 45 = .ok (.iload_n 1, 1) := by decide +kernel
theorem dX11_voice_46 : decode cX11_voice 46 = .ok (.iload_n 2, 1) := by decide +kernel
theorem dX11_voice_47 : decode cX11_voice 47 = .ok (.iload_n 3, 1) := by decide +kernel
theorem dX11_voice_48 : decode cX11_voice 48 = .ok (.iload 4, 2) := by decide +kernel
theorem dX11_voice_50 : decode cX11_voice 50 = .ok (.invokevirtual 106, 3) := by decide +kernel
theorem dX11_voice_53 : decode cX11_voice 53 = .ok (.goto 4, 3) := by decide +kernel
theorem dX11_voice_56 : decode cX11_voice 56 = .ok (.iconst (-1), 1) := by decide +kernel
theorem dX11_voice_57 : decode cX11_voice 57 = .ok (.ireturn, 1) := by decide +kernel
theorem dX11_voiceOf_0 : decode cX11_voiceOf 0 = .ok (.aload_n 0, 1) := by decide +kernel
theorem dX11_voiceOf_1 : decode cX11_voiceOf 1 = .ok (.getfield 30, 3) := by decide +kernel
theorem dX11_voiceOf_4 : decode cX11_voiceOf 4 = .ok (.iload_n 1, 1) := by decide +kernel
theorem dX11_voiceOf_5 : decode cX11_voiceOf 5 = .ok (.invokevirtual 110, 3) := by decide +kernel
theorem dX11_voiceOf_8 : decode cX11_voiceOf 8 = .ok (.ifCond .ne 5, 3) := by decide +kernel
theorem dX11_voiceOf_11 : decode cX11_voiceOf 11 = .ok (.iconst (-1), 1) := by decide +kernel
theorem dX11_voiceOf_12 : decode cX11_voiceOf 12 = .ok (.ireturn, 1) := by decide +kernel
theorem dX11_voiceOf_13 : decode cX11_voiceOf 13 = .ok (.iload_n 2, 1) := by decide +kernel
theorem dX11_voiceOf_14 : decode cX11_voiceOf 14 = .ok (.tableswitch 163 0 8 #[50, 60, 70, 80, 90, 107, 116, 137, 154], 50) := by decide +kernel
theorem dX11_voiceOf_64 : decode cX11_voiceOf 64 = .ok (.aload_n 0, 1) := by decide +kernel
theorem dX11_voiceOf_65 : decode cX11_voiceOf 65 = .ok (.getfield 30, 3) := by decide +kernel
theorem dX11_voiceOf_68 : decode cX11_voiceOf 68 = .ok (.getfield 113, 3) := by decide +kernel
theorem dX11_voiceOf_71 : decode cX11_voiceOf 71 = .ok (.iload_n 1, 1) := by decide +kernel
theorem dX11_voiceOf_72 : decode cX11_voiceOf 72 = .ok (.iaload, 1) := by decide +kernel
theorem dX11_voiceOf_73 : decode cX11_voiceOf 73 = .ok (.ireturn, 1) := by decide +kernel
theorem dX11_voiceOf_74 : decode cX11_voiceOf 74 = .ok (.aload_n 0, 1) := by decide +kernel
theorem dX11_voiceOf_75 : decode cX11_voiceOf 75 = .ok (.getfield 30, 3) := by decide +kernel
theorem dX11_voiceOf_78 : decode cX11_voiceOf 78 = .ok (.getfield 116, 3) := by decide +kernel
theorem dX11_voiceOf_81 : decode cX11_voiceOf 81 = .ok (.iload_n 1, 1) := by decide +kernel
theorem dX11_voiceOf_82 : decode cX11_voiceOf 82 = .ok (.iaload, 1) := by decide +kernel
theorem dX11_voiceOf_83 : decode cX11_voiceOf 83 = .ok (.ireturn, 1) := by decide +kernel
theorem dX11_voiceOf_84 : decode cX11_voiceOf 84 = .ok (.aload_n 0, 1) := by decide +kernel
theorem dX11_voiceOf_85 : decode cX11_voiceOf 85 = .ok (.getfield 30, 3) := by decide +kernel
theorem dX11_voiceOf_88 : decode cX11_voiceOf 88 = .ok (.getfield 119, 3) := by decide +kernel
theorem dX11_voiceOf_91 : decode cX11_voiceOf 91 = .ok (.iload_n 1, 1) := by decide +kernel
theorem dX11_voiceOf_92 : decode cX11_voiceOf 92 = .ok (.iaload, 1) := by decide +kernel
theorem dX11_voiceOf_93 : decode cX11_voiceOf 93 = .ok (.ireturn, 1) := by decide +kernel
theorem dX11_voiceOf_94 : decode cX11_voiceOf 94 = .ok (.aload_n 0, 1) := by decide +kernel
theorem dX11_voiceOf_95 : decode cX11_voiceOf 95 = .ok (.getfield 30, 3) := by decide +kernel
theorem dX11_voiceOf_98 : decode cX11_voiceOf 98 = .ok (.getfield 122, 3) := by decide +kernel
theorem dX11_voiceOf_101 : decode cX11_voiceOf 101 = .ok (.iload_n 1, 1) := by decide +kernel
theorem dX11_voiceOf_102 : decode cX11_voiceOf 102 = .ok (.iaload, 1) := by decide +kernel
theorem dX11_voiceOf_103 : decode cX11_voiceOf 103 = .ok (.ireturn, 1) := by decide +kernel
theorem dX11_voiceOf_104 : decode cX11_voiceOf 104 = .ok (.aload_n 0, 1) := by decide +kernel
theorem dX11_voiceOf_105 : decode cX11_voiceOf 105 = .ok (.getfield 30, 3) := by decide +kernel
theorem dX11_voiceOf_108 : decode cX11_voiceOf 108 = .ok (.iload_n 1, 1) := by decide +kernel
theorem dX11_voiceOf_109 : decode cX11_voiceOf 109 = .ok (.invokevirtual 125, 3) := by decide +kernel
theorem dX11_voiceOf_112 : decode cX11_voiceOf 112 = .ok (.ifCond .eq 7, 3) := by decide +kernel
theorem dX11_voiceOf_115 : decode cX11_voiceOf 115 = .ok (.iconst 1, 1) := by decide +kernel
theorem dX11_voiceOf_116 : decode cX11_voiceOf 116 = .ok (.goto 4, 3) := by decide +kernel
theorem dX11_voiceOf_119 : decode cX11_voiceOf 119 = .ok (.iconst 0, 1) := by decide +kernel
theorem dX11_voiceOf_120 : decode cX11_voiceOf 120 = .ok (.ireturn, 1) := by decide +kernel
theorem dX11_voiceOf_121 : decode cX11_voiceOf 121 = .ok (.aload_n 0, 1) := by decide +kernel
theorem dX11_voiceOf_122 : decode cX11_voiceOf 122 = .ok (.getfield 30, 3) := by decide +kernel
theorem dX11_voiceOf_125 : decode cX11_voiceOf 125 = .ok (.iload_n 1, 1) := by decide +kernel
theorem dX11_voiceOf_126 : decode cX11_voiceOf 126 = .ok (.invokevirtual 128, 3) := by decide +kernel
theorem dX11_voiceOf_129 : decode cX11_voiceOf 129 = .ok (.ireturn, 1) := by decide +kernel
theorem dX11_voiceOf_130 : decode cX11_voiceOf 130 = .ok (.aload_n 0, 1) := by decide +kernel
theorem dX11_voiceOf_131 : decode cX11_voiceOf 131 = .ok (.getfield 30, 3) := by decide +kernel
theorem dX11_voiceOf_134 : decode cX11_voiceOf 134 = .ok (.iload_n 1, 1) := by decide +kernel
theorem dX11_voiceOf_135 : decode cX11_voiceOf 135 = .ok (.invokevirtual 132, 3) := by decide +kernel
theorem dX11_voiceOf_138 : decode cX11_voiceOf 138 = .ok (.aload_n 0, 1) := by decide +kernel
theorem dX11_voiceOf_139 : decode cX11_voiceOf 139 = .ok (.getfield 30, 3) := by decide +kernel
theorem dX11_voiceOf_142 : decode cX11_voiceOf 142 = .ok (.getfield 119, 3) := by decide +kernel
theorem dX11_voiceOf_145 : decode cX11_voiceOf 145 = .ok (.iload_n 1, 1) := by decide +kernel
theorem dX11_voiceOf_146 : decode cX11_voiceOf 146 = .ok (.iaload, 1) := by decide +kernel
theorem dX11_voiceOf_147 : decode cX11_voiceOf 147 = .ok (.invokevirtual 136, 3) := by decide +kernel
theorem dX11_voiceOf_150 : decode cX11_voiceOf 150 = .ok (.ireturn, 1) := by decide +kernel
theorem dX11_voiceOf_151 : decode cX11_voiceOf 151 = .ok (.aload_n 0, 1) := by decide +kernel
theorem dX11_voiceOf_152 : decode cX11_voiceOf 152 = .ok (.getfield 30, 3) := by decide +kernel
theorem dX11_voiceOf_155 : decode cX11_voiceOf 155 = .ok (.iload_n 1, 1) := by decide +kernel
theorem dX11_voiceOf_156 : decode cX11_voiceOf 156 = .ok (.invokevirtual 139, 3) := by decide +kernel
theorem dX11_voiceOf_159 : decode cX11_voiceOf 159 = .ok (.ifCond .eq 7, 3) := by decide +kernel
theorem dX11_voiceOf_162 : decode cX11_voiceOf 162 = .ok (.iconst 1, 1) := by decide +kernel
theorem dX11_voiceOf_163 : decode cX11_voiceOf 163 = .ok (.goto 4, 3) := by decide +kernel
theorem dX11_voiceOf_166 : decode cX11_voiceOf 166 = .ok (.iconst 0, 1) := by decide +kernel
theorem dX11_voiceOf_167 : decode cX11_voiceOf 167 = .ok (.ireturn, 1) := by decide +kernel
theorem dX11_voiceOf_168 : decode cX11_voiceOf 168 = .ok (.aload_n 0, 1) := by decide +kernel
theorem dX11_voiceOf_169 : decode cX11_voiceOf 169 = .ok (.getfield 30, 3) := by decide +kernel
theorem dX11_voiceOf_172 : decode cX11_voiceOf 172 = .ok (.iload_n 1, 1) := by decide +kernel
theorem dX11_voiceOf_173 : decode cX11_voiceOf 173 = .ok (.invokevirtual 142, 3) := by decide +kernel
theorem dX11_voiceOf_176 : decode cX11_voiceOf 176 = .ok (.ireturn, 1) := by decide +kernel
theorem dX11_voiceOf_177 : decode cX11_voiceOf 177 = .ok (.iconst (-1), 1) := by decide +kernel
theorem dX11_voiceOf_178 : decode cX11_voiceOf 178 = .ok (.ireturn, 1) := by decide +kernel
theorem dX11_change_0 : decode cX11_change 0 = .ok (.aload_n 0, 1) := by decide +kernel
theorem dX11_change_1 : decode cX11_change 1 = .ok (.getfield 30, 3) := by decide +kernel
theorem dX11_change_4 : decode cX11_change 4 = .ok (.iload_n 1, 1) := by decide +kernel
theorem dX11_change_5 : decode cX11_change 5 = .ok (.invokevirtual 110, 3) := by decide +kernel
theorem dX11_change_8 : decode cX11_change 8 = .ok (.ifCond .ne 5, 3) := by decide +kernel
theorem dX11_change_11 : decode cX11_change 11 = .ok (.iconst (-1), 1) := by decide +kernel
theorem dX11_change_12 : decode cX11_change 12 = .ok (.ireturn, 1) := by decide +kernel
theorem dX11_change_13 : decode cX11_change 13 = .ok (.iload_n 2, 1) := by decide +kernel
theorem dX11_change_14 : decode cX11_change 14 = .ok (.tableswitch 122 1 4 #[30, 54, 78, 102], 30) := by decide +kernel
theorem dX11_change_44 : decode cX11_change 44 = .ok (.iload_n 3, 1) := by decide +kernel
theorem dX11_change_45 : decode cX11_change 45 = .ok (.invokestatic 97, 3) := by decide +kernel
theorem dX11_change_48 : decode cX11_change 48 = .ok (.ifCond .eq 18, 3) := by decide +kernel
theorem dX11_change_51 : decode cX11_change 51 = .ok (.aload_n 0, 1) := by decide +kernel
theorem dX11_change_52 : decode cX11_change 52 = .ok (.getfield 30, 3) := by decide +kernel
theorem dX11_change_55 : decode cX11_change 55 = .ok (.getfield 116, 3) := by decide +kernel
theorem dX11_change_58 : decode cX11_change 58 = .ok (.iload_n 1, 1) := by decide +kernel
theorem dX11_change_59 : decode cX11_change 59 = .ok (.iload_n 3, 1) := by decide +kernel
theorem dX11_change_60 : decode cX11_change 60 = .ok (.invokestatic 145, 3) := by decide +kernel
theorem dX11_change_63 : decode cX11_change 63 = .ok (.goto 4, 3) := by decide +kernel
theorem dX11_change_66 : decode cX11_change 66 = .ok (.iconst (-1), 1) := by decide +kernel
theorem dX11_change_67 : decode cX11_change 67 = .ok (.ireturn, 1) := by decide +kernel
theorem dX11_change_68 : decode cX11_change 68 = .ok (.iload_n 3, 1) := by decide +kernel
theorem dX11_change_69 : decode cX11_change 69 = .ok (.invokestatic 100, 3) := by decide +kernel
theorem dX11_change_72 : decode cX11_change 72 = .ok (.ifCond .eq 18, 3) := by decide +kernel
theorem dX11_change_75 : decode cX11_change 75 = .ok (.aload_n 0, 1) := by decide +kernel
theorem dX11_change_76 : decode cX11_change 76 = .ok (.getfield 30, 3) := by decide +kernel
theorem dX11_change_79 : decode cX11_change 79 = .ok (.getfield 119, 3) := by decide +kernel
theorem dX11_change_82 : decode cX11_change 82 = .ok (.iload_n 1, 1) := by decide +kernel
theorem dX11_change_83 : decode cX11_change 83 = .ok (.iload_n 3, 1) := by decide +kernel
theorem dX11_change_84 : decode cX11_change 84 = .ok (.invokestatic 145, 3) := by decide +kernel
theorem dX11_change_87 : decode cX11_change 87 = .ok (.goto 4, 3) := by decide +kernel
theorem dX11_change_90 : decode cX11_change 90 = .ok (.iconst (-1), 1) := by decide +kernel
theorem dX11_change_91 : decode cX11_change 91 = .ok (.ireturn, 1) := by decide +kernel
theorem dX11_change_92 : decode cX11_change 92 = .ok (.iload_n 3, 1) := by decide +kernel
theorem dX11_change_93 : decode cX11_change 93 = .ok (.invokestatic 103, 3) := by decide +kernel
theorem dX11_change_96 : decode cX11_change 96 = .ok (.ifCond .eq 18, 3) := by decide +kernel
theorem dX11_change_99 : decode cX11_change 99 = .ok (.aload_n 0, 1) := by decide +kernel
theorem dX11_change_100 : decode cX11_change 100 = .ok (.getfield 30, 3) := by decide +kernel
theorem dX11_change_103 : decode cX11_change 103 = .ok (.getfield 122, 3) := by decide +kernel
theorem dX11_change_106 : decode cX11_change 106 = .ok (.iload_n 1, 1) := by decide +kernel
theorem dX11_change_107 : decode cX11_change 107 = .ok (.iload_n 3, 1) := by decide +kernel
theorem dX11_change_108 : decode cX11_change 108 = .ok (.invokestatic 145, 3) := by decide +kernel
theorem dX11_change_111 : decode cX11_change 111 = .ok (.goto 4, 3) := by decide +kernel
theorem dX11_change_114 : decode cX11_change 114 = .ok (.iconst (-1), 1) := by decide +kernel
theorem dX11_change_115 : decode cX11_change 115 = .ok (.ireturn, 1) := by decide +kernel
theorem dX11_change_116 : decode cX11_change 116 = .ok (.iload_n 3, 1) := by decide +kernel
theorem dX11_change_117 : decode cX11_change 117 = .ok (.iconst 0, 1) := by decide +kernel
theorem dX11_change_118 : decode cX11_change 118 = .ok (.iconst 1, 1) := by decide +kernel
theorem dX11_change_119 : decode cX11_change 119 = .ok (.invokestatic 149, 3) := by decide +kernel
theorem dX11_change_122 : decode cX11_change 122 = .ok (.ifCond .eq 12, 3) := by decide +kernel
theorem dX11_change_125 : decode cX11_change 125 = .ok (.aload_n 0, 1) := by decide +kernel
theorem dX11_change_126 : decode cX11_change 126 = .ok (.iload_n 1, 1) := by decide +kernel
theorem dX11_change_127 : decode cX11_change 127 = .ok (.iload_n 3, 1) := by decide +kernel
theorem dX11_change_128 : decode cX11_change 128 = .ok (.invokevirtual 153, 3) := by decide +kernel
theorem dX11_change_131 : decode cX11_change 131 = .ok (.goto 4, 3) := by decide +kernel
theorem dX11_change_134 : decode cX11_change 134 = .ok (.iconst (-1), 1) := by decide +kernel
theorem dX11_change_135 : decode cX11_change 135 = .ok (.ireturn, 1) := by decide +kernel
theorem dX11_change_136 : decode cX11_change 136 = .ok (.iconst (-1), 1) := by decide +kernel
theorem dX11_change_137 : decode cX11_change 137 = .ok (.ireturn, 1) := by decide +kernel
theorem dX11_changeCaught_0 : decode cX11_changeCaught 0 = .ok (.aload_n 0, 1) := by decide +kernel
theorem dX11_changeCaught_1 : decode cX11_changeCaught 1 = .ok (.getfield 30, 3) := by decide +kernel
theorem dX11_changeCaught_4 : decode cX11_changeCaught 4 = .ok (.iload_n 1, 1) := by decide +kernel
theorem dX11_changeCaught_5 : decode cX11_changeCaught 5 = .ok (.invokevirtual 125, 3) := by decide +kernel
theorem dX11_changeCaught_8 : decode cX11_changeCaught 8 = .ok (.ifCond .eq 7, 3) := by decide +kernel
theorem dX11_changeCaught_11 : decode cX11_changeCaught 11 = .ok (.iconst 1, 1) := by decide +kernel
theorem dX11_changeCaught_12 : decode cX11_changeCaught 12 = .ok (.goto 4, 3) := by decide +kernel
theorem dX11_changeCaught_15 : decode cX11_changeCaught 15 = .ok (.iconst 0, 1) := by decide +kernel
theorem dX11_changeCaught_16 : decode cX11_changeCaught 16 = .ok (.istore_n 3, 1) := by decide +kernel
theorem dX11_changeCaught_17 : decode cX11_changeCaught 17 = .ok (.aload_n 0, 1) := by decide +kernel
theorem dX11_changeCaught_18 : decode cX11_changeCaught 18 = .ok (.getfield 30, 3) := by decide +kernel
theorem dX11_changeCaught_21 : decode cX11_changeCaught 21 = .ok (.iload_n 1, 1) := by decide +kernel
theorem dX11_changeCaught_22 : decode cX11_changeCaught 22 = .ok (.iload_n 2, 1) := by decide +kernel
theorem dX11_changeCaught_23 : decode cX11_changeCaught 23 = .ok (.iconst 1, 1) := by decide +kernel
theorem dX11_changeCaught_24 : decode cX11_changeCaught 24 = .ok (.if_icmp .ne 7, 3) := by decide +kernel
theorem dX11_changeCaught_27 : decode cX11_changeCaught 27 = .ok (.iconst 1, 1) := by decide +kernel
theorem dX11_changeCaught_28 : decode cX11_changeCaught 28 = .ok (.goto 4, 3) := by decide +kernel
theorem dX11_changeCaught_31 : decode cX11_changeCaught 31 = .ok (.iconst 0, 1) := by decide +kernel
theorem dX11_changeCaught_32 : decode cX11_changeCaught 32 = .ok (.invokevirtual 157, 3) := by decide +kernel
theorem dX11_changeCaught_35 : decode cX11_changeCaught 35 = .ok (.iload_n 3, 1) := by decide +kernel
theorem dX11_changeCaught_36 : decode cX11_changeCaught 36 = .ok (.ireturn, 1) := by decide +kernel
theorem dX11_remake_0 : decode cX11_remake 0 = .ok (.aload_n 0, 1) := by decide +kernel
theorem dX11_remake_1 : decode cX11_remake 1 = .ok (.getfield 30, 3) := by decide +kernel
theorem dX11_remake_4 : decode cX11_remake 4 = .ok (.iload_n 1, 1) := by decide +kernel
theorem dX11_remake_5 : decode cX11_remake 5 = .ok (.invokevirtual 110, 3) := by decide +kernel
theorem dX11_remake_8 : decode cX11_remake 8 = .ok (.ifCond .eq 25, 3) := by decide +kernel
theorem dX11_remake_11 : decode cX11_remake 11 = .ok (.iload_n 2, 1) := by decide +kernel
theorem dX11_remake_12 : decode cX11_remake 12 = .ok (.invokestatic 93, 3) := by decide +kernel
theorem dX11_remake_15 : decode cX11_remake 15 = .ok (.ifCond .eq 18, 3) := by decide +kernel
theorem dX11_remake_18 : decode cX11_remake 18 = .ok (.aload_n 0, 1) := by decide +kernel
theorem dX11_remake_19 : decode cX11_remake 19 = .ok (.getfield 30, 3) := by decide +kernel
theorem dX11_remake_22 : decode cX11_remake 22 = .ok (.getfield 113, 3) := by decide +kernel
theorem dX11_remake_25 : decode cX11_remake 25 = .ok (.iload_n 1, 1) := by decide +kernel
theorem dX11_remake_26 : decode cX11_remake 26 = .ok (.iload_n 2, 1) := by decide +kernel
theorem dX11_remake_27 : decode cX11_remake 27 = .ok (.invokestatic 145, 3) := by decide +kernel
theorem dX11_remake_30 : decode cX11_remake 30 = .ok (.goto 4, 3) := by decide +kernel
theorem dX11_remake_33 : decode cX11_remake 33 = .ok (.iconst (-1), 1) := by decide +kernel
theorem dX11_remake_34 : decode cX11_remake 34 = .ok (.ireturn, 1) := by decide +kernel
theorem dX11_tide_0 : decode cX11_tide 0 = .ok (.iload_n 1, 1) := by decide +kernel
theorem dX11_tide_1 : decode cX11_tide 1 = .ok (.invokestatic 161, 3) := by decide +kernel
theorem dX11_tide_4 : decode cX11_tide 4 = .ok (.ifCond .eq 27, 3) := by decide +kernel
theorem dX11_tide_7 : decode cX11_tide 7 = .ok (.iload_n 2, 1) := by decide +kernel
theorem dX11_tide_8 : decode cX11_tide 8 = .ok (.iconst 0, 1) := by decide +kernel
theorem dX11_tide_9 : decode cX11_tide 9 = .ok (.iconst 2, 1) := by decide +kernel
theorem dX11_tide_10 : decode cX11_tide 10 = .ok (.invokestatic 149, 3) := by decide +kernel
theorem dX11_tide_13 : decode cX11_tide 13 = .ok (.ifCond .eq 18, 3) := by decide +kernel
theorem dX11_tide_16 : decode cX11_tide 16 = .ok (.aload_n 0, 1) := by decide +kernel
theorem dX11_tide_17 : decode cX11_tide 17 = .ok (.getfield 30, 3) := by decide +kernel
theorem dX11_tide_20 : decode cX11_tide 20 = .ok (.getfield 164, 3) := by decide +kernel
theorem dX11_tide_23 : decode cX11_tide 23 = .ok (.iload_n 1, 1) := by decide +kernel
theorem dX11_tide_24 : decode cX11_tide 24 = .ok (.iload_n 2, 1) := by decide +kernel
theorem dX11_tide_25 : decode cX11_tide 25 = .ok (.invokestatic 145, 3) := by decide +kernel
theorem dX11_tide_28 : decode cX11_tide 28 = .ok (.goto 4, 3) := by decide +kernel
theorem dX11_tide_31 : decode cX11_tide 31 = .ok (.iconst (-1), 1) := by decide +kernel
theorem dX11_tide_32 : decode cX11_tide 32 = .ok (.ireturn, 1) := by decide +kernel
theorem dX11_tideOf_0 : decode cX11_tideOf 0 = .ok (.iload_n 1, 1) := by decide +kernel
theorem dX11_tideOf_1 : decode cX11_tideOf 1 = .ok (.invokestatic 161, 3) := by decide +kernel
theorem dX11_tideOf_4 : decode cX11_tideOf 4 = .ok (.ifCond .eq 15, 3) := by decide +kernel
theorem dX11_tideOf_7 : decode cX11_tideOf 7 = .ok (.aload_n 0, 1) := by decide +kernel
theorem dX11_tideOf_8 : decode cX11_tideOf 8 = .ok (.getfield 30, 3) := by decide +kernel
theorem dX11_tideOf_11 : decode cX11_tideOf 11 = .ok (.getfield 164, 3) := by decide +kernel
theorem dX11_tideOf_14 : decode cX11_tideOf 14 = .ok (.iload_n 1, 1) := by decide +kernel
theorem dX11_tideOf_15 : decode cX11_tideOf 15 = .ok (.iaload, 1) := by decide +kernel
theorem dX11_tideOf_16 : decode cX11_tideOf 16 = .ok (.goto 4, 3) := by decide +kernel
theorem dX11_tideOf_19 : decode cX11_tideOf 19 = .ok (.iconst (-1), 1) := by decide +kernel
theorem dX11_tideOf_20 : decode cX11_tideOf 20 = .ok (.ireturn, 1) := by decide +kernel
theorem dX11_set_0 : decode cX11_set 0 = .ok (.iload_n 1, 1) := by decide +kernel
theorem dX11_set_1 : decode cX11_set 1 = .ok (.lookupswitch 67 #[(0, 27), (1, 47)], 27) := by decide +kernel
theorem dX11_set_28 : decode cX11_set 28 = .ok (.iload_n 2, 1) := by decide +kernel
theorem dX11_set_29 : decode cX11_set 29 = .ok (.iconst 1, 1) := by decide +kernel
theorem dX11_set_30 : decode cX11_set 30 = .ok (.bipush 16, 2) := by decide +kernel
theorem dX11_set_32 : decode cX11_set 32 = .ok (.invokestatic 149, 3) := by decide +kernel
theorem dX11_set_35 : decode cX11_set 35 = .ok (.ifCond .eq 11, 3) := by decide +kernel
theorem dX11_set_38 : decode cX11_set 38 = .ok (.aload_n 0, 1) := by decide +kernel
theorem dX11_set_39 : decode cX11_set 39 = .ok (.iload_n 2, 1) := by decide +kernel
theorem dX11_set_40 : decode cX11_set 40 = .ok (.invokevirtual 167, 3) := by decide +kernel
theorem dX11_set_43 : decode cX11_set 43 = .ok (.goto 4, 3) := by decide +kernel
theorem dX11_set_46 : decode cX11_set 46 = .ok (.iconst (-1), 1) := by decide +kernel
theorem dX11_set_47 : decode cX11_set 47 = .ok (.ireturn, 1) := by decide +kernel
theorem dX11_set_48 : decode cX11_set 48 = .ok (.iload_n 2, 1) := by decide +kernel
theorem dX11_set_49 : decode cX11_set 49 = .ok (.iconst 0, 1) := by decide +kernel
theorem dX11_set_50 : decode cX11_set 50 = .ok (.bipush 9, 2) := by decide +kernel
theorem dX11_set_52 : decode cX11_set 52 = .ok (.invokestatic 149, 3) := by decide +kernel
theorem dX11_set_55 : decode cX11_set 55 = .ok (.ifCond .eq 11, 3) := by decide +kernel
theorem dX11_set_58 : decode cX11_set 58 = .ok (.aload_n 0, 1) := by decide +kernel
theorem dX11_set_59 : decode cX11_set 59 = .ok (.iload_n 2, 1) := by decide +kernel
theorem dX11_set_60 : decode cX11_set 60 = .ok (.invokevirtual 170, 3) := by decide +kernel
theorem dX11_set_63 : decode cX11_set 63 = .ok (.goto 4, 3) := by decide +kernel
theorem dX11_set_66 : decode cX11_set 66 = .ok (.iconst (-1), 1) := by decide +kernel
theorem dX11_set_67 : decode cX11_set 67 = .ok (.ireturn, 1) := by decide +kernel
theorem dX11_set_68 : decode cX11_set 68 = .ok (.iconst (-1), 1) := by decide +kernel
theorem dX11_set_69 : decode cX11_set 69 = .ok (.ireturn, 1) := by decide +kernel
theorem dX11_changeEnd_0 : decode cX11_changeEnd 0 = .ok (.iload_n 1, 1) := by decide +kernel
theorem dX11_changeEnd_1 : decode cX11_changeEnd 1 = .ok (.aload_n 0, 1) := by decide +kernel
theorem dX11_changeEnd_2 : decode cX11_changeEnd 2 = .ok (.getfield 30, 3) := by decide +kernel
theorem dX11_changeEnd_5 : decode cX11_changeEnd 5 = .ok (.getfield 173, 3) := by decide +kernel
theorem dX11_changeEnd_8 : decode cX11_changeEnd 8 = .ok (.if_icmp .ge 6, 3) := by decide +kernel
theorem dX11_changeEnd_11 : decode cX11_changeEnd 11 = .ok (.bipush (-4), 2) := by decide +kernel
theorem dX11_changeEnd_13 : decode cX11_changeEnd 13 = .ok (.ireturn, 1) := by decide +kernel
theorem dX11_changeEnd_14 : decode cX11_changeEnd 14 = .ok (.aload_n 0, 1) := by decide +kernel
theorem dX11_changeEnd_15 : decode cX11_changeEnd 15 = .ok (.getfield 30, 3) := by decide +kernel
theorem dX11_changeEnd_18 : decode cX11_changeEnd 18 = .ok (.getfield 177, 3) := by decide +kernel
theorem dX11_changeEnd_21 : decode cX11_changeEnd 21 = .ok (.istore_n 2, 1) := by decide +kernel
theorem dX11_changeEnd_22 : decode cX11_changeEnd 22 = .ok (.aload_n 0, 1) := by decide +kernel
theorem dX11_changeEnd_23 : decode cX11_changeEnd 23 = .ok (.getfield 30, 3) := by decide +kernel
theorem dX11_changeEnd_26 : decode cX11_changeEnd 26 = .ok (.iload_n 1, 1) := by decide +kernel
theorem dX11_changeEnd_27 : decode cX11_changeEnd 27 = .ok (.putfield 177, 3) := by decide +kernel
theorem dX11_changeEnd_30 : decode cX11_changeEnd 30 = .ok (.iload_n 2, 1) := by decide +kernel
theorem dX11_changeEnd_31 : decode cX11_changeEnd 31 = .ok (.ireturn, 1) := by decide +kernel
theorem dX11_changeMesh_0 : decode cX11_changeMesh 0 = .ok (.aload_n 0, 1) := by decide +kernel
theorem dX11_changeMesh_1 : decode cX11_changeMesh 1 = .ok (.getfield 30, 3) := by decide +kernel
theorem dX11_changeMesh_4 : decode cX11_changeMesh 4 = .ok (.getfield 180, 3) := by decide +kernel
theorem dX11_changeMesh_7 : decode cX11_changeMesh 7 = .ok (.istore_n 2, 1) := by decide +kernel
theorem dX11_changeMesh_8 : decode cX11_changeMesh 8 = .ok (.aload_n 0, 1) := by decide +kernel
theorem dX11_changeMesh_9 : decode cX11_changeMesh 9 = .ok (.getfield 30, 3) := by decide +kernel
theorem dX11_changeMesh_12 : decode cX11_changeMesh 12 = .ok (.iload_n 1, 1) := by decide +kernel
theorem dX11_changeMesh_13 : decode cX11_changeMesh 13 = .ok (.putfield 180, 3) := by decide +kernel
theorem dX11_changeMesh_16 : decode cX11_changeMesh 16 = .ok (.iload_n 2, 1) := by decide +kernel
theorem dX11_changeMesh_17 : decode cX11_changeMesh 17 = .ok (.ireturn, 1) := by decide +kernel
theorem dX11_anew_0 : decode cX11_anew 0 = .ok (.aload_n 0, 1) := by decide +kernel
theorem dX11_anew_1 : decode cX11_anew 1 = .ok (.getfield 30, 3) := by decide +kernel
theorem dX11_anew_4 : decode cX11_anew 4 = .ok (.getfield 173, 3) := by decide +kernel
theorem dX11_anew_7 : decode cX11_anew 7 = .ok (.istore_n 1, 1) := by decide +kernel
theorem dX11_anew_8 : decode cX11_anew 8 = .ok (.aload_n 0, 1) := by decide +kernel
theorem dX11_anew_9 : decode cX11_anew 9 = .ok (.getfield 30, 3) := by decide +kernel
theorem dX11_anew_12 : decode cX11_anew 12 = .ok (.iconst 0, 1) := by decide +kernel
theorem dX11_anew_13 : decode cX11_anew 13 = .ok (.putfield 173, 3) := by decide +kernel
theorem dX11_anew_16 : decode cX11_anew 16 = .ok (.aload_n 0, 1) := by decide +kernel
theorem dX11_anew_17 : decode cX11_anew 17 = .ok (.getfield 30, 3) := by decide +kernel
theorem dX11_anew_20 : decode cX11_anew 20 = .ok (.iconst 0, 1) := by decide +kernel
theorem dX11_anew_21 : decode cX11_anew 21 = .ok (.putfield 183, 3) := by decide +kernel
theorem dX11_anew_24 : decode cX11_anew 24 = .ok (.aload_n 0, 1) := by decide +kernel
theorem dX11_anew_25 : decode cX11_anew 25 = .ok (.getfield 30, 3) := by decide +kernel
theorem dX11_anew_28 : decode cX11_anew 28 = .ok (.iconst 0, 1) := by decide +kernel
theorem dX11_anew_29 : decode cX11_anew 29 = .ok (.putfield 186, 3) := by decide +kernel
theorem dX11_anew_32 : decode cX11_anew 32 = .ok (.iload_n 1, 1) := by decide +kernel
theorem dX11_anew_33 : decode cX11_anew 33 = .ok (.ireturn, 1) := by decide +kernel
theorem dX11_state_0 : decode cX11_state 0 = .ok (.iload_n 1, 1) := by decide +kernel
theorem dX11_state_1 : decode cX11_state 1 = .ok (.tableswitch 95 0 5 #[39, 47, 55, 63, 79, 87], 39) := by decide +kernel
theorem dX11_state_40 : decode cX11_state 40 = .ok (.aload_n 0, 1) := by decide +kernel
theorem dX11_state_41 : decode cX11_state 41 = .ok (.getfield 30, 3) := by decide +kernel
theorem dX11_state_44 : decode cX11_state 44 = .ok (.getfield 173, 3) := by decide +kernel
theorem dX11_state_47 : decode cX11_state 47 = .ok (.ireturn, 1) := by decide +kernel
theorem dX11_state_48 : decode cX11_state 48 = .ok (.aload_n 0, 1) := by decide +kernel
theorem dX11_state_49 : decode cX11_state 49 = .ok (.getfield 30, 3) := by decide +kernel
theorem dX11_state_52 : decode cX11_state 52 = .ok (.getfield 177, 3) := by decide +kernel
theorem dX11_state_55 : decode cX11_state 55 = .ok (.ireturn, 1) := by decide +kernel
theorem dX11_state_56 : decode cX11_state 56 = .ok (.aload_n 0, 1) := by decide +kernel
theorem dX11_state_57 : decode cX11_state 57 = .ok (.getfield 30, 3) := by decide +kernel
theorem dX11_state_60 : decode cX11_state 60 = .ok (.getfield 183, 3) := by decide +kernel
theorem dX11_state_63 : decode cX11_state 63 = .ok (.ireturn, 1) := by decide +kernel
theorem dX11_state_64 : decode cX11_state 64 = .ok (.aload_n 0, 1) := by decide +kernel
theorem dX11_state_65 : decode cX11_state 65 = .ok (.getfield 30, 3) := by decide +kernel
theorem dX11_state_68 : decode cX11_state 68 = .ok (.invokevirtual 189, 3) := by decide +kernel
theorem dX11_state_71 : decode cX11_state 71 = .ok (.ifCond .eq 7, 3) := by decide +kernel
theorem dX11_state_74 : decode cX11_state 74 = .ok (.iconst 1, 1) := by decide +kernel
theorem dX11_state_75 : decode cX11_state 75 = .ok (.goto 4, 3) := by decide +kernel
theorem dX11_state_78 : decode cX11_state 78 = .ok (.iconst 0, 1) := by decide +kernel
theorem dX11_state_79 : decode cX11_state 79 = .ok (.ireturn, 1) := by decide +kernel
theorem dX11_state_80 : decode cX11_state 80 = .ok (.aload_n 0, 1) := by decide +kernel
theorem dX11_state_81 : decode cX11_state 81 = .ok (.getfield 30, 3) := by decide +kernel
theorem dX11_state_84 : decode cX11_state 84 = .ok (.getfield 186, 3) := by decide +kernel
theorem dX11_state_87 : decode cX11_state 87 = .ok (.ireturn, 1) := by decide +kernel
theorem dX11_state_88 : decode cX11_state 88 = .ok (.aload_n 0, 1) := by decide +kernel
theorem dX11_state_89 : decode cX11_state 89 = .ok (.getfield 30, 3) := by decide +kernel
theorem dX11_state_92 : decode cX11_state 92 = .ok (.getfield 180, 3) := by decide +kernel
theorem dX11_state_95 : decode cX11_state 95 = .ok (.ireturn, 1) := by decide +kernel
theorem dX11_state_96 : decode cX11_state 96 = .ok (.iconst (-1), 1) := by decide +kernel
theorem dX11_state_97 : decode cX11_state 97 = .ok (.ireturn, 1) := by decide +kernel
theorem dX11_feed_0 : decode cX11_feed 0 = .ok (.iload_n 3, 1) := by decide +kernel
theorem dX11_feed_1 : decode cX11_feed 1 = .ok (.iconst 1, 1) := by decide +kernel
theorem dX11_feed_2 : decode cX11_feed 2 = .ok (.bipush 8, 2) := by decide +kernel
theorem dX11_feed_4 : decode cX11_feed 4 = .ok (.invokestatic 149, 3) := by decide +kernel
theorem dX11_feed_7 : decode cX11_feed 7 = .ok (.ifCond .eq 15, 3) := by decide +kernel
theorem dX11_feed_10 : decode cX11_feed 10 = .ok (.aload_n 0, 1) := by decide +kernel
theorem dX11_feed_11 : decode cX11_feed 11 = .ok (.getfield 46, 3) := by decide +kernel
theorem dX11_feed_14 : decode cX11_feed 14 = .ok (.lload_n 1, 1) := by decide +kernel
theorem dX11_feed_15 : decode cX11_feed 15 = .ok (.iload_n 3, 1) := by decide +kernel
theorem dX11_feed_16 : decode cX11_feed 16 = .ok (.invokevirtual 193, 3) := by decide +kernel
theorem dX11_feed_19 : decode cX11_feed 19 = .ok (.goto 4, 3) := by decide +kernel
theorem dX11_feed_22 : decode cX11_feed 22 = .ok (.iconst (-1), 1) := by decide +kernel
theorem dX11_feed_23 : decode cX11_feed 23 = .ok (.ireturn, 1) := by decide +kernel
theorem dX11_rules_0 : decode cX11_rules 0 = .ok (.aload_n 0, 1) := by decide +kernel
theorem dX11_rules_1 : decode cX11_rules 1 = .ok (.getfield 46, 3) := by decide +kernel
theorem dX11_rules_4 : decode cX11_rules 4 = .ok (.aload_n 0, 1) := by decide +kernel
theorem dX11_rules_5 : decode cX11_rules 5 = .ok (.getfield 30, 3) := by decide +kernel
theorem dX11_rules_8 : decode cX11_rules 8 = .ok (.getfield 197, 3) := by decide +kernel
theorem dX11_rules_11 : decode cX11_rules 11 = .ok (.invokevirtual 201, 3) := by decide +kernel
theorem dX11_rules_14 : decode cX11_rules 14 = .ok (.istore_n 1, 1) := by decide +kernel
theorem dX11_rules_15 : decode cX11_rules 15 = .ok (.aload_n 0, 1) := by decide +kernel
theorem dX11_rules_16 : decode cX11_rules 16 = .ok (.getfield 46, 3) := by decide +kernel
theorem dX11_rules_19 : decode cX11_rules 19 = .ok (.invokevirtual 205, 3) := by decide +kernel
theorem dX11_rules_22 : decode cX11_rules 22 = .ok (.iload_n 1, 1) := by decide +kernel
theorem dX11_rules_23 : decode cX11_rules 23 = .ok (.ireturn, 1) := by decide +kernel
theorem dX11_turn_0 : decode cX11_turn 0 = .ok (.aload_n 0, 1) := by decide +kernel
theorem dX11_turn_1 : decode cX11_turn 1 = .ok (.getfield 30, 3) := by decide +kernel
theorem dX11_turn_4 : decode cX11_turn 4 = .ok (.invokevirtual 189, 3) := by decide +kernel
theorem dX11_turn_7 : decode cX11_turn 7 = .ok (.ifCond .eq 8, 3) := by decide +kernel
theorem dX11_turn_10 : decode cX11_turn 10 = .ok (.bipush (-4), 2) := by decide +kernel
theorem dX11_turn_12 : decode cX11_turn 12 = .ok (.goto 17, 3) := by decide +kernel
theorem dX11_turn_15 : decode cX11_turn 15 = .ok (.aload_n 0, 1) := by decide +kernel
theorem dX11_turn_16 : decode cX11_turn 16 = .ok (.getfield 30, 3) := by decide +kernel
theorem dX11_turn_19 : decode cX11_turn 19 = .ok (.aload_n 0, 1) := by decide +kernel
theorem dX11_turn_20 : decode cX11_turn 20 = .ok (.getfield 30, 3) := by decide +kernel
theorem dX11_turn_23 : decode cX11_turn 23 = .ok (.invokevirtual 208, 3) := by decide +kernel
theorem dX11_turn_26 : decode cX11_turn 26 = .ok (.invokevirtual 212, 3) := by decide +kernel
theorem dX11_turn_29 : decode cX11_turn 29 = .ok (.ireturn, 1) := by decide +kernel
theorem dX11_on_0 : decode cX11_on 0 = .ok (.iload_n 1, 1) := by decide +kernel
theorem dX11_on_1 : decode cX11_on 1 = .ok (.iconst 0, 1) := by decide +kernel
theorem dX11_on_2 : decode cX11_on 2 = .ok (.bipush 16, 2) := by decide +kernel
theorem dX11_on_4 : decode cX11_on 4 = .ok (.invokestatic 149, 3) := by decide +kernel
theorem dX11_on_7 : decode cX11_on 7 = .ok (.ifCond .eq 14, 3) := by decide +kernel
theorem dX11_on_10 : decode cX11_on 10 = .ok (.aload_n 0, 1) := by decide +kernel
theorem dX11_on_11 : decode cX11_on 11 = .ok (.getfield 55, 3) := by decide +kernel
theorem dX11_on_14 : decode cX11_on 14 = .ok (.iload_n 1, 1) := by decide +kernel
theorem dX11_on_15 : decode cX11_on 15 = .ok (.invokevirtual 215, 3) := by decide +kernel
theorem dX11_on_18 : decode cX11_on 18 = .ok (.goto 4, 3) := by decide +kernel
theorem dX11_on_21 : decode cX11_on 21 = .ok (.iconst (-1), 1) := by decide +kernel
theorem dX11_on_22 : decode cX11_on 22 = .ok (.ireturn, 1) := by decide +kernel
theorem dX11_when_0 : decode cX11_when 0 = .ok (.aload_n 0, 1) := by decide +kernel
theorem dX11_when_1 : decode cX11_when 1 = .ok (.getfield 30, 3) := by decide +kernel
theorem dX11_when_4 : decode cX11_when 4 = .ok (.iload_n 1, 1) := by decide +kernel
theorem dX11_when_5 : decode cX11_when 5 = .ok (.invokevirtual 110, 3) := by decide +kernel
theorem dX11_when_8 : decode cX11_when 8 = .ok (.ifCond .eq 14, 3) := by decide +kernel
theorem dX11_when_11 : decode cX11_when 11 = .ok (.aload_n 0, 1) := by decide +kernel
theorem dX11_when_12 : decode cX11_when 12 = .ok (.getfield 55, 3) := by decide +kernel
theorem dX11_when_15 : decode cX11_when 15 = .ok (.iload_n 1, 1) := by decide +kernel
theorem dX11_when_16 : decode cX11_when 16 = .ok (.invokevirtual 218, 3) := by decide +kernel
theorem dX11_when_19 : decode cX11_when 19 = .ok (.goto 4, 3) := by decide +kernel
theorem dX11_when_22 : decode cX11_when 22 = .ok (.iconst (-1), 1) := by decide +kernel
theorem dX11_when_23 : decode cX11_when 23 = .ok (.ireturn, 1) := by decide +kernel
theorem dX11_meshFor_0 : decode cX11_meshFor 0 = .ok (.aload_n 0, 1) := by decide +kernel
theorem dX11_meshFor_1 : decode cX11_meshFor 1 = .ok (.getfield 55, 3) := by decide +kernel
theorem dX11_meshFor_4 : decode cX11_meshFor 4 = .ok (.invokevirtual 221, 3) := by decide +kernel
theorem dX11_meshFor_7 : decode cX11_meshFor 7 = .ok (.ireturn, 1) := by decide +kernel
theorem dX11_placeFor_0 : decode cX11_placeFor 0 = .ok (.aload_n 0, 1) := by decide +kernel
theorem dX11_placeFor_1 : decode cX11_placeFor 1 = .ok (.getfield 30, 3) := by decide +kernel
theorem dX11_placeFor_4 : decode cX11_placeFor 4 = .ok (.iload_n 1, 1) := by decide +kernel
theorem dX11_placeFor_5 : decode cX11_placeFor 5 = .ok (.invokevirtual 110, 3) := by decide +kernel
theorem dX11_placeFor_8 : decode cX11_placeFor 8 = .ok (.ifCond .eq 14, 3) := by decide +kernel
theorem dX11_placeFor_11 : decode cX11_placeFor 11 = .ok (.aload_n 0, 1) := by decide +kernel
theorem dX11_placeFor_12 : decode cX11_placeFor 12 = .ok (.getfield 55, 3) := by decide +kernel
theorem dX11_placeFor_15 : decode cX11_placeFor 15 = .ok (.iload_n 1, 1) := by decide +kernel
theorem dX11_placeFor_16 : decode cX11_placeFor 16 = .ok (.invokevirtual 224, 3) := by decide +kernel
theorem dX11_placeFor_19 : decode cX11_placeFor 19 = .ok (.goto 4, 3) := by decide +kernel
theorem dX11_placeFor_22 : decode cX11_placeFor 22 = .ok (.iconst (-1), 1) := by decide +kernel
theorem dX11_placeFor_23 : decode cX11_placeFor 23 = .ok (.ireturn, 1) := by decide +kernel
theorem dX11_quarrels_0 : decode cX11_quarrels 0 = .ok (.aload_n 0, 1) := by decide +kernel
theorem dX11_quarrels_1 : decode cX11_quarrels 1 = .ok (.getfield 55, 3) := by decide +kernel
theorem dX11_quarrels_4 : decode cX11_quarrels 4 = .ok (.invokevirtual 227, 3) := by decide +kernel
theorem dX11_quarrels_7 : decode cX11_quarrels 7 = .ok (.ireturn, 1) := by decide +kernel
theorem dX11_apart_0 : decode cX11_apart 0 = .ok (.iload_n 1, 1) := by decide +kernel
theorem dX11_apart_1 : decode cX11_apart 1 = .ok (.iconst (-1), 1) := by decide +kernel
theorem dX11_apart_2 : decode cX11_apart 2 = .ok (.if_icmp .eq 16, 3) := by decide +kernel
theorem dX11_apart_5 : decode cX11_apart 5 = .ok (.aload_n 0, 1) := by decide +kernel
theorem dX11_apart_6 : decode cX11_apart 6 = .ok (.getfield 30, 3) := by decide +kernel
theorem dX11_apart_9 : decode cX11_apart 9 = .ok (.iload_n 1, 1) := by decide +kernel
theorem dX11_apart_10 : decode cX11_apart 10 = .ok (.invokevirtual 110, 3) := by decide +kernel
theorem dX11_apart_13 : decode cX11_apart 13 = .ok (.ifCond .ne 5, 3) := by decide +kernel
theorem dX11_apart_16 : decode cX11_apart 16 = .ok (.iconst (-1), 1) := by decide +kernel
theorem dX11_apart_17 : decode cX11_apart 17 = .ok (.ireturn, 1) := by decide +kernel
theorem dX11_apart_18 : decode cX11_apart 18 = .ok (.aload_n 0, 1) := by decide +kernel
theorem dX11_apart_19 : decode cX11_apart 19 = .ok (.getfield 55, 3) := by decide +kernel
theorem dX11_apart_22 : decode cX11_apart 22 = .ok (.invokevirtual 230, 3) := by decide +kernel
theorem dX11_apart_25 : decode cX11_apart 25 = .ok (.istore_n 2, 1) := by decide +kernel
theorem dX11_apart_26 : decode cX11_apart 26 = .ok (.iload_n 1, 1) := by decide +kernel
theorem dX11_apart_27 : decode cX11_apart 27 = .ok (.iconst (-1), 1) := by decide +kernel
theorem dX11_apart_28 : decode cX11_apart 28 = .ok (.if_icmp .ne 7, 3) := by decide +kernel
theorem dX11_apart_31 : decode cX11_apart 31 = .ok (.iload_n 2, 1) := by decide +kernel
theorem dX11_apart_32 : decode cX11_apart 32 = .ok (.goto 12, 3) := by decide +kernel
theorem dX11_apart_35 : decode cX11_apart 35 = .ok (.aload_n 0, 1) := by decide +kernel
theorem dX11_apart_36 : decode cX11_apart 36 = .ok (.getfield 55, 3) := by decide +kernel
theorem dX11_apart_39 : decode cX11_apart 39 = .ok (.getfield 233, 3) := by decide +kernel
theorem dX11_apart_42 : decode cX11_apart 42 = .ok (.iload_n 1, 1) := by decide +kernel
theorem dX11_apart_43 : decode cX11_apart 43 = .ok (.iaload, 1) := by decide +kernel
theorem dX11_apart_44 : decode cX11_apart 44 = .ok (.ireturn, 1) := by decide +kernel
theorem dX11_choir_0 : decode cX11_choir 0 = .ok (.iload_n 1, 1) := by decide +kernel
theorem dX11_choir_1 : decode cX11_choir 1 = .ok (.iconst 0, 1) := by decide +kernel
theorem dX11_choir_2 : decode cX11_choir 2 = .ok (.iconst 1, 1) := by decide +kernel
theorem dX11_choir_3 : decode cX11_choir 3 = .ok (.invokestatic 149, 3) := by decide +kernel
theorem dX11_choir_6 : decode cX11_choir 6 = .ok (.ifCond .ne 5, 3) := by decide +kernel
theorem dX11_choir_9 : decode cX11_choir 9 = .ok (.iconst (-1), 1) := by decide +kernel
theorem dX11_choir_10 : decode cX11_choir 10 = .ok (.ireturn, 1) := by decide +kernel
theorem dX11_choir_11 : decode cX11_choir 11 = .ok (.aload_n 0, 1) := by decide +kernel
theorem dX11_choir_12 : decode cX11_choir 12 = .ok (.getfield 55, 3) := by decide +kernel
theorem dX11_choir_15 : decode cX11_choir 15 = .ok (.invokevirtual 236, 3) := by decide +kernel
theorem dX11_choir_18 : decode cX11_choir 18 = .ok (.istore_n 2, 1) := by decide +kernel
theorem dX11_choir_19 : decode cX11_choir 19 = .ok (.iload_n 1, 1) := by decide +kernel
theorem dX11_choir_20 : decode cX11_choir 20 = .ok (.ifCond .ne 7, 3) := by decide +kernel
theorem dX11_choir_23 : decode cX11_choir 23 = .ok (.iload_n 2, 1) := by decide +kernel
theorem dX11_choir_24 : decode cX11_choir 24 = .ok (.goto 11, 3) := by decide +kernel
theorem dX11_choir_27 : decode cX11_choir 27 = .ok (.aload_n 0, 1) := by decide +kernel
theorem dX11_choir_28 : decode cX11_choir 28 = .ok (.getfield 55, 3) := by decide +kernel
theorem dX11_choir_31 : decode cX11_choir 31 = .ok (.iload_n 2, 1) := by decide +kernel
theorem dX11_choir_32 : decode cX11_choir 32 = .ok (.invokevirtual 239, 3) := by decide +kernel
theorem dX11_choir_35 : decode cX11_choir 35 = .ok (.ireturn, 1) := by decide +kernel
theorem dX11_best_0 : decode cX11_best 0 = .ok (.iload_n 1, 1) := by decide +kernel
theorem dX11_best_1 : decode cX11_best 1 = .ok (.invokestatic 242, 3) := by decide +kernel
theorem dX11_best_4 : decode cX11_best 4 = .ok (.ifCond .ne 5, 3) := by decide +kernel
theorem dX11_best_7 : decode cX11_best 7 = .ok (.iconst (-1), 1) := by decide +kernel
theorem dX11_best_8 : decode cX11_best 8 = .ok (.ireturn, 1) := by decide +kernel
theorem dX11_best_9 : decode cX11_best 9 = .ok (.aload_n 0, 1) := by decide +kernel
theorem dX11_best_10 : decode cX11_best 10 = .ok (.getfield 55, 3) := by decide +kernel
theorem dX11_best_13 : decode cX11_best 13 = .ok (.iload_n 1, 1) := by decide +kernel
theorem dX11_best_14 : decode cX11_best 14 = .ok (.iconst 0, 1) := by decide +kernel
theorem dX11_best_15 : decode cX11_best 15 = .ok (.invokevirtual 245, 3) := by decide +kernel
theorem dX11_best_18 : decode cX11_best 18 = .ok (.aload_n 0, 1) := by decide +kernel
theorem dX11_best_19 : decode cX11_best 19 = .ok (.getfield 55, 3) := by decide +kernel
theorem dX11_best_22 : decode cX11_best 22 = .ok (.getfield 249, 3) := by decide +kernel
theorem dX11_best_25 : decode cX11_best 25 = .ok (.ireturn, 1) := by decide +kernel
theorem dX11_ith_0 : decode cX11_ith 0 = .ok (.iload_n 1, 1) := by decide +kernel
theorem dX11_ith_1 : decode cX11_ith 1 = .ok (.invokestatic 242, 3) := by decide +kernel
theorem dX11_ith_4 : decode cX11_ith 4 = .ok (.ifCond .eq 12, 3) := by decide +kernel
theorem dX11_ith_7 : decode cX11_ith 7 = .ok (.iload_n 2, 1) := by decide +kernel
theorem dX11_ith_8 : decode cX11_ith 8 = .ok (.iconst 0, 1) := by decide +kernel
theorem dX11_ith_9 : decode cX11_ith 9 = .ok (.iconst 3, 1) := by decide +kernel
theorem dX11_ith_10 : decode cX11_ith 10 = .ok (.invokestatic 149, 3) := by decide +kernel
theorem dX11_ith_13 : decode cX11_ith 13 = .ok (.ifCond .ne 5, 3) := by decide +kernel
theorem dX11_ith_16 : decode cX11_ith 16 = .ok (.iconst (-1), 1) := by decide +kernel
theorem dX11_ith_17 : decode cX11_ith 17 = .ok (.ireturn, 1) := by decide +kernel
theorem dX11_ith_18 : decode cX11_ith 18 = .ok (.iload_n 2, 1) := by decide +kernel
theorem dX11_ith_19 : decode cX11_ith 19 = .ok (.aload_n 0, 1) := by decide +kernel
theorem dX11_ith_20 : decode cX11_ith 20 = .ok (.getfield 55, 3) := by decide +kernel
theorem dX11_ith_23 : decode cX11_ith 23 = .ok (.iload_n 1, 1) := by decide +kernel
theorem dX11_ith_24 : decode cX11_ith 24 = .ok (.invokevirtual 252, 3) := by decide +kernel
theorem dX11_ith_27 : decode cX11_ith 27 = .ok (.if_icmp .lt 6, 3) := by decide +kernel
theorem dX11_ith_30 : decode cX11_ith 30 = .ok (.bipush (-3), 2) := by decide +kernel
theorem dX11_ith_32 : decode cX11_ith 32 = .ok (.ireturn, 1) := by decide +kernel
theorem dX11_ith_33 : decode cX11_ith 33 = .ok (.aload_n 0, 1) := by decide +kernel
theorem dX11_ith_34 : decode cX11_ith 34 = .ok (.getfield 55, 3) := by decide +kernel
theorem dX11_ith_37 : decode cX11_ith 37 = .ok (.iload_n 1, 1) := by decide +kernel
theorem dX11_ith_38 : decode cX11_ith 38 = .ok (.iconst 0, 1) := by decide +kernel
theorem dX11_ith_39 : decode cX11_ith 39 = .ok (.invokevirtual 245, 3) := by decide +kernel
theorem dX11_ith_42 : decode cX11_ith 42 = .ok (.aload_n 0, 1) := by decide +kernel
theorem dX11_ith_43 : decode cX11_ith 43 = .ok (.getfield 55, 3) := by decide +kernel
theorem dX11_ith_46 : decode cX11_ith 46 = .ok (.getfield 255, 3) := by decide +kernel
theorem dX11_ith_49 : decode cX11_ith 49 = .ok (.iload_n 2, 1) := by decide +kernel
theorem dX11_ith_50 : decode cX11_ith 50 = .ok (.iaload, 1) := by decide +kernel
theorem dX11_ith_51 : decode cX11_ith 51 = .ok (.ireturn, 1) := by decide +kernel
theorem dX11_ways_0 : decode cX11_ways 0 = .ok (.iload_n 1, 1) := by decide +kernel
theorem dX11_ways_1 : decode cX11_ways 1 = .ok (.invokestatic 242, 3) := by decide +kernel
theorem dX11_ways_4 : decode cX11_ways 4 = .ok (.ifCond .ne 5, 3) := by decide +kernel
theorem dX11_ways_7 : decode cX11_ways 7 = .ok (.iconst (-1), 1) := by decide +kernel
theorem dX11_ways_8 : decode cX11_ways 8 = .ok (.ireturn, 1) := by decide +kernel
theorem dX11_ways_9 : decode cX11_ways 9 = .ok (.aload_n 0, 1) := by decide +kernel
theorem dX11_ways_10 : decode cX11_ways 10 = .ok (.getfield 55, 3) := by decide +kernel
theorem dX11_ways_13 : decode cX11_ways 13 = .ok (.iload_n 1, 1) := by decide +kernel
theorem dX11_ways_14 : decode cX11_ways 14 = .ok (.iconst 0, 1) := by decide +kernel
theorem dX11_ways_15 : decode cX11_ways 15 = .ok (.invokevirtual 245, 3) := by decide +kernel
theorem dX11_ways_18 : decode cX11_ways 18 = .ok (.aload_n 0, 1) := by decide +kernel
theorem dX11_ways_19 : decode cX11_ways 19 = .ok (.getfield 55, 3) := by decide +kernel
theorem dX11_ways_22 : decode cX11_ways 22 = .ok (.getfield 258, 3) := by decide +kernel
theorem dX11_ways_25 : decode cX11_ways 25 = .ok (.ireturn, 1) := by decide +kernel
theorem dX11_haul_0 : decode cX11_haul 0 = .ok (.iload_n 1, 1) := by decide +kernel
theorem dX11_haul_1 : decode cX11_haul 1 = .ok (.invokestatic 242, 3) := by decide +kernel
theorem dX11_haul_4 : decode cX11_haul 4 = .ok (.ifCond .eq 14, 3) := by decide +kernel
theorem dX11_haul_7 : decode cX11_haul 7 = .ok (.aload_n 0, 1) := by decide +kernel
theorem dX11_haul_8 : decode cX11_haul 8 = .ok (.getfield 30, 3) := by decide +kernel
theorem dX11_haul_11 : decode cX11_haul 11 = .ok (.iload_n 2, 1) := by decide +kernel
theorem dX11_haul_12 : decode cX11_haul 12 = .ok (.invokevirtual 261, 3) := by decide +kernel
theorem dX11_haul_15 : decode cX11_haul 15 = .ok (.ifCond .ne 5, 3) := by decide +kernel
theorem dX11_haul_18 : decode cX11_haul 18 = .ok (.iconst (-1), 1) := by decide +kernel
theorem dX11_haul_19 : decode cX11_haul 19 = .ok (.ireturn, 1) := by decide +kernel
theorem dX11_haul_20 : decode cX11_haul 20 = .ok (.aload_n 0, 1) := by decide +kernel
theorem dX11_haul_21 : decode cX11_haul 21 = .ok (.getfield 55, 3) := by decide +kernel
theorem dX11_haul_24 : decode cX11_haul 24 = .ok (.iload_n 1, 1) := by decide +kernel
theorem dX11_haul_25 : decode cX11_haul 25 = .ok (.iload_n 2, 1) := by decide +kernel
theorem dX11_haul_26 : decode cX11_haul 26 = .ok (.invokevirtual 245, 3) := by decide +kernel
theorem dX11_haul_29 : decode cX11_haul 29 = .ok (.aload_n 0, 1) := by decide +kernel
theorem dX11_haul_30 : decode cX11_haul 30 = .ok (.getfield 55, 3) := by decide +kernel
theorem dX11_haul_33 : decode cX11_haul 33 = .ok (.getfield 264, 3) := by decide +kernel
theorem dX11_haul_36 : decode cX11_haul 36 = .ok (.ireturn, 1) := by decide +kernel
theorem dX11_bars_0 : decode cX11_bars 0 = .ok (.iload_n 1, 1) := by decide +kernel
theorem dX11_bars_1 : decode cX11_bars 1 = .ok (.invokestatic 242, 3) := by decide +kernel
theorem dX11_bars_4 : decode cX11_bars 4 = .ok (.ifCond .eq 14, 3) := by decide +kernel
theorem dX11_bars_7 : decode cX11_bars 7 = .ok (.aload_n 0, 1) := by decide +kernel
theorem dX11_bars_8 : decode cX11_bars 8 = .ok (.getfield 30, 3) := by decide +kernel
theorem dX11_bars_11 : decode cX11_bars 11 = .ok (.iload_n 2, 1) := by decide +kernel
theorem dX11_bars_12 : decode cX11_bars 12 = .ok (.invokevirtual 261, 3) := by decide +kernel
theorem dX11_bars_15 : decode cX11_bars 15 = .ok (.ifCond .ne 5, 3) := by decide +kernel
theorem dX11_bars_18 : decode cX11_bars 18 = .ok (.iconst (-1), 1) := by decide +kernel
theorem dX11_bars_19 : decode cX11_bars 19 = .ok (.ireturn, 1) := by decide +kernel
theorem dX11_bars_20 : decode cX11_bars 20 = .ok (.aload_n 0, 1) := by decide +kernel
theorem dX11_bars_21 : decode cX11_bars 21 = .ok (.getfield 55, 3) := by decide +kernel
theorem dX11_bars_24 : decode cX11_bars 24 = .ok (.iload_n 1, 1) := by decide +kernel
theorem dX11_bars_25 : decode cX11_bars 25 = .ok (.iload_n 2, 1) := by decide +kernel
theorem dX11_bars_26 : decode cX11_bars 26 = .ok (.invokevirtual 245, 3) := by decide +kernel
theorem dX11_bars_29 : decode cX11_bars 29 = .ok (.iload_n 2, 1) := by decide +kernel
theorem dX11_bars_30 : decode cX11_bars 30 = .ok (.aload_n 0, 1) := by decide +kernel
theorem dX11_bars_31 : decode cX11_bars 31 = .ok (.getfield 55, 3) := by decide +kernel
theorem dX11_bars_34 : decode cX11_bars 34 = .ok (.getfield 267, 3) := by decide +kernel
theorem dX11_bars_37 : decode cX11_bars 37 = .ok (.iconst (-1), 1) := by decide +kernel
theorem dX11_bars_38 : decode cX11_bars 38 = .ok (.ixor, 1) := by decide +kernel
theorem dX11_bars_39 : decode cX11_bars 39 = .ok (.iand, 1) := by decide +kernel
theorem dX11_bars_40 : decode cX11_bars 40 = .ok (.invokestatic 270, 3) := by decide +kernel
theorem dX11_bars_43 : decode cX11_bars 43 = .ok (.ireturn, 1) := by decide +kernel
theorem dX11_game_0 : decode cX11_game 0 = .ok (.iload_n 1, 1) := by decide +kernel
theorem dX11_game_1 : decode cX11_game 1 = .ok (.invokestatic 273, 3) := by decide +kernel
theorem dX11_game_4 : decode cX11_game 4 = .ok (.ifCond .ne 5, 3) := by decide +kernel
theorem dX11_game_7 : decode cX11_game 7 = .ok (.iconst (-1), 1) := by decide +kernel
theorem dX11_game_8 : decode cX11_game 8 = .ok (.ireturn, 1) := by decide +kernel
theorem dX11_game_9 : decode cX11_game 9 = .ok (.aload_n 0, 1) := by decide +kernel
theorem dX11_game_10 : decode cX11_game 10 = .ok (.getfield 55, 3) := by decide +kernel
theorem dX11_game_13 : decode cX11_game 13 = .ok (.iload_n 1, 1) := by decide +kernel
theorem dX11_game_14 : decode cX11_game 14 = .ok (.invokevirtual 276, 3) := by decide +kernel
theorem dX11_game_17 : decode cX11_game 17 = .ok (.ireturn, 1) := by decide +kernel
theorem dX11_play_0 : decode cX11_play 0 = .ok (.iload_n 1, 1) := by decide +kernel
theorem dX11_play_1 : decode cX11_play 1 = .ok (.invokestatic 273, 3) := by decide +kernel
theorem dX11_play_4 : decode cX11_play 4 = .ok (.ifCond .ne 5, 3) := by decide +kernel
theorem dX11_play_7 : decode cX11_play 7 = .ok (.iconst (-1), 1) := by decide +kernel
theorem dX11_play_8 : decode cX11_play 8 = .ok (.ireturn, 1) := by decide +kernel
theorem dX11_play_9 : decode cX11_play 9 = .ok (.aload_n 0, 1) := by decide +kernel
theorem dX11_play_10 : decode cX11_play 10 = .ok (.getfield 30, 3) := by decide +kernel
theorem dX11_play_13 : decode cX11_play 13 = .ok (.invokevirtual 189, 3) := by decide +kernel
theorem dX11_play_16 : decode cX11_play 16 = .ok (.ifCond .eq 6, 3) := by decide +kernel
theorem dX11_play_19 : decode cX11_play 19 = .ok (.bipush (-3), 2) := by decide +kernel
theorem dX11_play_21 : decode cX11_play 21 = .ok (.ireturn, 1) := by decide +kernel
theorem dX11_play_22 : decode cX11_play 22 = .ok (.aload_n 0, 1) := by decide +kernel
theorem dX11_play_23 : decode cX11_play 23 = .ok (.getfield 55, 3) := by decide +kernel
theorem dX11_play_26 : decode cX11_play 26 = .ok (.iload_n 1, 1) := by decide +kernel
theorem dX11_play_27 : decode cX11_play 27 = .ok (.invokevirtual 276, 3) := by decide +kernel
theorem dX11_play_30 : decode cX11_play 30 = .ok (.pop, 1) := by decide +kernel
theorem dX11_play_31 : decode cX11_play 31 = .ok (.aload_n 0, 1) := by decide +kernel
theorem dX11_play_32 : decode cX11_play 32 = .ok (.getfield 55, 3) := by decide +kernel
theorem dX11_play_35 : decode cX11_play 35 = .ok (.getfield 279, 3) := by decide +kernel
theorem dX11_play_38 : decode cX11_play 38 = .ok (.ireturn, 1) := by decide +kernel
theorem dX11_report_0 : decode cX11_report 0 = .ok (.iload_n 1, 1) := by decide +kernel
theorem dX11_report_1 : decode cX11_report 1 = .ok (.iconst 0, 1) := by decide +kernel
theorem dX11_report_2 : decode cX11_report 2 = .ok (.bipush 15, 2) := by decide +kernel
theorem dX11_report_4 : decode cX11_report 4 = .ok (.invokestatic 149, 3) := by decide +kernel
theorem dX11_report_7 : decode cX11_report 7 = .ok (.ifCond .eq 26, 3) := by decide +kernel
theorem dX11_report_10 : decode cX11_report 10 = .ok (.iload_n 2, 1) := by decide +kernel
theorem dX11_report_11 : decode cX11_report 11 = .ok (.invokestatic 103, 3) := by decide +kernel
theorem dX11_report_14 : decode cX11_report 14 = .ok (.ifCond .eq 19, 3) := by decide +kernel
theorem dX11_report_17 : decode cX11_report 17 = .ok (.iload_n 3, 1) := by decide +kernel
theorem dX11_report_18 : decode cX11_report 18 = .ok (.invokestatic 103, 3) := by decide +kernel
theorem dX11_report_21 : decode cX11_report 21 = .ok (.ifCond .eq 12, 3) := by decide +kernel
theorem dX11_report_24 : decode cX11_report 24 = .ok (.iload_n 2, 1) := by decide +kernel
theorem dX11_report_25 : decode cX11_report 25 = .ok (.iload_n 3, 1) := by decide +kernel
theorem dX11_report_26 : decode cX11_report 26 = .ok (.if_icmp .gt 7, 3) := by decide +kernel
theorem dX11_report_29 : decode cX11_report 29 = .ok (.iconst 1, 1) := by decide +kernel
theorem dX11_report_30 : decode cX11_report 30 = .ok (.goto 4, 3) := by decide +kernel
theorem dX11_report_33 : decode cX11_report 33 = .ok (.iconst 0, 1) := by decide +kernel
theorem dX11_report_34 : decode cX11_report 34 = .ok (.istore 4, 2) := by decide +kernel
theorem dX11_report_36 : decode cX11_report 36 = .ok (.iload 4, 2) := by decide +kernel
theorem dX11_report_38 : decode cX11_report 38 = .ok (.ifCond .eq 16, 3) := by decide +kernel
theorem dX11_report_41 : decode cX11_report 41 = .ok (.aload_n 0, 1) := by decide +kernel
theorem dX11_report_42 : decode cX11_report 42 = .ok (.getfield 30, 3) := by decide +kernel
theorem dX11_report_45 : decode cX11_report 45 = .ok (.iload_n 1, 1) := by decide +kernel
theorem dX11_report_46 : decode cX11_report 46 = .ok (.iload_n 2, 1) := by decide +kernel
theorem dX11_report_47 : decode cX11_report 47 = .ok (.iload_n 3, 1) := by decide +kernel
theorem dX11_report_48 : decode cX11_report 48 = .ok (.invokevirtual 282, 3) := by decide +kernel
theorem dX11_report_51 : decode cX11_report 51 = .ok (.goto 4, 3) := by decide +kernel
theorem dX11_report_54 : decode cX11_report 54 = .ok (.iconst (-1), 1) := by decide +kernel
theorem dX11_report_55 : decode cX11_report 55 = .ok (.ireturn, 1) := by decide +kernel
theorem dX11_forget_0 : decode cX11_forget 0 = .ok (.aload_n 0, 1) := by decide +kernel
theorem dX11_forget_1 : decode cX11_forget 1 = .ok (.getfield 30, 3) := by decide +kernel
theorem dX11_forget_4 : decode cX11_forget 4 = .ok (.getfield 286, 3) := by decide +kernel
theorem dX11_forget_7 : decode cX11_forget 7 = .ok (.istore_n 1, 1) := by decide +kernel
theorem dX11_forget_8 : decode cX11_forget 8 = .ok (.aload_n 0, 1) := by decide +kernel
theorem dX11_forget_9 : decode cX11_forget 9 = .ok (.getfield 30, 3) := by decide +kernel
theorem dX11_forget_12 : decode cX11_forget 12 = .ok (.iconst 0, 1) := by decide +kernel
theorem dX11_forget_13 : decode cX11_forget 13 = .ok (.putfield 286, 3) := by decide +kernel
theorem dX11_forget_16 : decode cX11_forget 16 = .ok (.iload_n 1, 1) := by decide +kernel
theorem dX11_forget_17 : decode cX11_forget 17 = .ok (.ireturn, 1) := by decide +kernel
theorem dX11_span_0 : decode cX11_span 0 = .ok (.iload_n 1, 1) := by decide +kernel
theorem dX11_span_1 : decode cX11_span 1 = .ok (.iconst 0, 1) := by decide +kernel
theorem dX11_span_2 : decode cX11_span 2 = .ok (.iconst 2, 1) := by decide +kernel
theorem dX11_span_3 : decode cX11_span 3 = .ok (.invokestatic 149, 3) := by decide +kernel
theorem dX11_span_6 : decode cX11_span 6 = .ok (.ifCond .ne 5, 3) := by decide +kernel
theorem dX11_span_9 : decode cX11_span 9 = .ok (.iconst (-1), 1) := by decide +kernel
theorem dX11_span_10 : decode cX11_span 10 = .ok (.ireturn, 1) := by decide +kernel
theorem dX11_span_11 : decode cX11_span 11 = .ok (.iload_n 1, 1) := by decide +kernel
theorem dX11_span_12 : decode cX11_span 12 = .ok (.ifCond .ne 11, 3) := by decide +kernel
theorem dX11_span_15 : decode cX11_span 15 = .ok (.aload_n 0, 1) := by decide +kernel
theorem dX11_span_16 : decode cX11_span 16 = .ok (.getfield 55, 3) := by decide +kernel
theorem dX11_span_19 : decode cX11_span 19 = .ok (.invokevirtual 289, 3) := by decide +kernel
theorem dX11_span_22 : decode cX11_span 22 = .ok (.ireturn, 1) := by decide +kernel
theorem dX11_span_23 : decode cX11_span 23 = .ok (.aload_n 0, 1) := by decide +kernel
theorem dX11_span_24 : decode cX11_span 24 = .ok (.getfield 55, 3) := by decide +kernel
theorem dX11_span_27 : decode cX11_span 27 = .ok (.invokevirtual 292, 3) := by decide +kernel
theorem dX11_span_30 : decode cX11_span 30 = .ok (.istore_n 2, 1) := by decide +kernel
theorem dX11_span_31 : decode cX11_span 31 = .ok (.iload_n 2, 1) := by decide +kernel
theorem dX11_span_32 : decode cX11_span 32 = .ok (.bipush (-3), 2) := by decide +kernel
theorem dX11_span_34 : decode cX11_span 34 = .ok (.if_icmp .ne 6, 3) := by decide +kernel
theorem dX11_span_37 : decode cX11_span 37 = .ok (.bipush (-3), 2) := by decide +kernel
theorem dX11_span_39 : decode cX11_span 39 = .ok (.ireturn, 1) := by decide +kernel
theorem dX11_span_40 : decode cX11_span 40 = .ok (.iload_n 1, 1) := by decide +kernel
theorem dX11_span_41 : decode cX11_span 41 = .ok (.iconst 1, 1) := by decide +kernel
theorem dX11_span_42 : decode cX11_span 42 = .ok (.if_icmp .ne 10, 3) := by decide +kernel
theorem dX11_span_45 : decode cX11_span 45 = .ok (.iload_n 2, 1) := by decide +kernel
theorem dX11_span_46 : decode cX11_span 46 = .ok (.invokestatic 295, 3) := by decide +kernel
theorem dX11_span_49 : decode cX11_span 49 = .ok (.goto 7, 3) := by decide +kernel
theorem dX11_span_52 : decode cX11_span 52 = .ok (.iload_n 2, 1) := by decide +kernel
theorem dX11_span_53 : decode cX11_span 53 = .ok (.invokestatic 298, 3) := by decide +kernel
theorem dX11_span_56 : decode cX11_span 56 = .ok (.ireturn, 1) := by decide +kernel
theorem dX11_liar_0 : decode cX11_liar 0 = .ok (.aload_n 0, 1) := by decide +kernel
theorem dX11_liar_1 : decode cX11_liar 1 = .ok (.getfield 55, 3) := by decide +kernel
theorem dX11_liar_4 : decode cX11_liar 4 = .ok (.invokevirtual 301, 3) := by decide +kernel
theorem dX11_liar_7 : decode cX11_liar 7 = .ok (.ireturn, 1) := by decide +kernel
theorem dX11_seed_0 : decode cX11_seed 0 = .ok (.aload_n 0, 1) := by decide +kernel
theorem dX11_seed_1 : decode cX11_seed 1 = .ok (.getfield 30, 3) := by decide +kernel
theorem dX11_seed_4 : decode cX11_seed 4 = .ok (.getfield 304, 3) := by decide +kernel
theorem dX11_seed_7 : decode cX11_seed 7 = .ok (.istore_n 2, 1) := by decide +kernel
theorem dX11_seed_8 : decode cX11_seed 8 = .ok (.aload_n 0, 1) := by decide +kernel
theorem dX11_seed_9 : decode cX11_seed 9 = .ok (.getfield 30, 3) := by decide +kernel
theorem dX11_seed_12 : decode cX11_seed 12 = .ok (.iload_n 1, 1) := by decide +kernel
theorem dX11_seed_13 : decode cX11_seed 13 = .ok (.putfield 304, 3) := by decide +kernel
theorem dX11_seed_16 : decode cX11_seed 16 = .ok (.iload_n 2, 1) := by decide +kernel
theorem dX11_seed_17 : decode cX11_seed 17 = .ok (.ireturn, 1) := by decide +kernel
theorem dX11_lot_0 : decode cX11_lot 0 = .ok (.aload_n 0, 1) := by decide +kernel
theorem dX11_lot_1 : decode cX11_lot 1 = .ok (.getfield 30, 3) := by decide +kernel
theorem dX11_lot_4 : decode cX11_lot 4 = .ok (.invokevirtual 189, 3) := by decide +kernel
theorem dX11_lot_7 : decode cX11_lot 7 = .ok (.ifCond .eq 8, 3) := by decide +kernel
theorem dX11_lot_10 : decode cX11_lot 10 = .ok (.bipush (-4), 2) := by decide +kernel
theorem dX11_lot_12 : decode cX11_lot 12 = .ok (.goto 17, 3) := by decide +kernel
theorem dX11_lot_15 : decode cX11_lot 15 = .ok (.aload_n 0, 1) := by decide +kernel
theorem dX11_lot_16 : decode cX11_lot 16 = .ok (.getfield 30, 3) := by decide +kernel
theorem dX11_lot_19 : decode cX11_lot 19 = .ok (.aload_n 0, 1) := by decide +kernel
theorem dX11_lot_20 : decode cX11_lot 20 = .ok (.getfield 30, 3) := by decide +kernel
theorem dX11_lot_23 : decode cX11_lot 23 = .ok (.invokevirtual 307, 3) := by decide +kernel
theorem dX11_lot_26 : decode cX11_lot 26 = .ok (.invokevirtual 212, 3) := by decide +kernel
theorem dX11_lot_29 : decode cX11_lot 29 = .ok (.ireturn, 1) := by decide +kernel
theorem dX11_times_0 : decode cX11_times 0 = .ok (.iload_n 1, 1) := by decide +kernel
theorem dX11_times_1 : decode cX11_times 1 = .ok (.iconst 1, 1) := by decide +kernel
theorem dX11_times_2 : decode cX11_times 2 = .ok (.bipush 40, 2) := by decide +kernel
theorem dX11_times_4 : decode cX11_times 4 = .ok (.invokestatic 149, 3) := by decide +kernel
theorem dX11_times_7 : decode cX11_times 7 = .ok (.ifCond .eq 26, 3) := by decide +kernel
theorem dX11_times_10 : decode cX11_times 10 = .ok (.iload_n 2, 1) := by decide +kernel
theorem dX11_times_11 : decode cX11_times 11 = .ok (.iconst 0, 1) := by decide +kernel
theorem dX11_times_12 : decode cX11_times 12 = .ok (.sipush 999, 3) := by decide +kernel
theorem dX11_times_15 : decode cX11_times 15 = .ok (.invokestatic 149, 3) := by decide +kernel
theorem dX11_times_18 : decode cX11_times 18 = .ok (.ifCond .eq 15, 3) := by decide +kernel
theorem dX11_times_21 : decode cX11_times 21 = .ok (.aload_n 0, 1) := by decide +kernel
theorem dX11_times_22 : decode cX11_times 22 = .ok (.getfield 55, 3) := by decide +kernel
theorem dX11_times_25 : decode cX11_times 25 = .ok (.iload_n 1, 1) := by decide +kernel
theorem dX11_times_26 : decode cX11_times 26 = .ok (.iload_n 2, 1) := by decide +kernel
theorem dX11_times_27 : decode cX11_times 27 = .ok (.invokevirtual 310, 3) := by decide +kernel
theorem dX11_times_30 : decode cX11_times 30 = .ok (.goto 4, 3) := by decide +kernel
theorem dX11_times_33 : decode cX11_times 33 = .ok (.iconst (-1), 1) := by decide +kernel
theorem dX11_times_34 : decode cX11_times 34 = .ok (.ireturn, 1) := by decide +kernel
theorem dX11_prove_0 : decode cX11_prove 0 = .ok (.iload_n 1, 1) := by decide +kernel
theorem dX11_prove_1 : decode cX11_prove 1 = .ok (.invokestatic 242, 3) := by decide +kernel
theorem dX11_prove_4 : decode cX11_prove 4 = .ok (.ifCond .ne 5, 3) := by decide +kernel
theorem dX11_prove_7 : decode cX11_prove 7 = .ok (.iconst (-1), 1) := by decide +kernel
theorem dX11_prove_8 : decode cX11_prove 8 = .ok (.ireturn, 1) := by decide +kernel
theorem dX11_prove_9 : decode cX11_prove 9 = .ok (.aload_n 0, 1) := by decide +kernel
theorem dX11_prove_10 : decode cX11_prove 10 = .ok (.getfield 55, 3) := by decide +kernel
theorem dX11_prove_13 : decode cX11_prove 13 = .ok (.iload_n 1, 1) := by decide +kernel
theorem dX11_prove_14 : decode cX11_prove 14 = .ok (.iconst 0, 1) := by decide +kernel
theorem dX11_prove_15 : decode cX11_prove 15 = .ok (.invokevirtual 245, 3) := by decide +kernel
theorem dX11_prove_18 : decode cX11_prove 18 = .ok (.aload_n 0, 1) := by decide +kernel
theorem dX11_prove_19 : decode cX11_prove 19 = .ok (.getfield 55, 3) := by decide +kernel
theorem dX11_prove_22 : decode cX11_prove 22 = .ok (.invokevirtual 313, 3) := by decide +kernel
theorem dX11_prove_25 : decode cX11_prove 25 = .ok (.ireturn, 1) := by decide +kernel
theorem dX11_row_0 : decode cX11_row 0 = .ok (.aload_n 0, 1) := by decide +kernel
theorem dX11_row_1 : decode cX11_row 1 = .ok (.getfield 55, 3) := by decide +kernel
theorem dX11_row_4 : decode cX11_row 4 = .ok (.iload_n 1, 1) := by decide +kernel
theorem dX11_row_5 : decode cX11_row 5 = .ok (.invokevirtual 316, 3) := by decide +kernel
theorem dX11_row_8 : decode cX11_row 8 = .ok (.ifCond .eq 26, 3) := by decide +kernel
theorem dX11_row_11 : decode cX11_row 11 = .ok (.iload_n 2, 1) := by decide +kernel
theorem dX11_row_12 : decode cX11_row 12 = .ok (.iconst 0, 1) := by decide +kernel
theorem dX11_row_13 : decode cX11_row 13 = .ok (.iconst 2, 1) := by decide +kernel
theorem dX11_row_14 : decode cX11_row 14 = .ok (.invokestatic 149, 3) := by decide +kernel
theorem dX11_row_17 : decode cX11_row 17 = .ok (.ifCond .eq 17, 3) := by decide +kernel
theorem dX11_row_20 : decode cX11_row 20 = .ok (.aload_n 0, 1) := by decide +kernel
theorem dX11_row_21 : decode cX11_row 21 = .ok (.getfield 55, 3) := by decide +kernel
theorem dX11_row_24 : decode cX11_row 24 = .ok (.getfield 319, 3) := by decide +kernel
theorem dX11_row_27 : decode cX11_row 27 = .ok (.iload_n 1, 1) := by decide +kernel
theorem dX11_row_28 : decode cX11_row 28 = .ok (.aaload, 1) := by decide +kernel
theorem dX11_row_29 : decode cX11_row 29 = .ok (.iload_n 2, 1) := by decide +kernel
theorem dX11_row_30 : decode cX11_row 30 = .ok (.iaload, 1) := by decide +kernel
theorem dX11_row_31 : decode cX11_row 31 = .ok (.goto 5, 3) := by decide +kernel
theorem dX11_row_34 : decode cX11_row 34 = .ok (.bipush (-9), 2) := by decide +kernel
theorem dX11_row_36 : decode cX11_row 36 = .ok (.ireturn, 1) := by decide +kernel
theorem dX11_alterRow_0 : decode cX11_alterRow 0 = .ok (.aload_n 0, 1) := by decide +kernel
theorem dX11_alterRow_1 : decode cX11_alterRow 1 = .ok (.getfield 55, 3) := by decide +kernel
theorem dX11_alterRow_4 : decode cX11_alterRow 4 = .ok (.iload_n 1, 1) := by decide +kernel
theorem dX11_alterRow_5 : decode cX11_alterRow 5 = .ok (.invokevirtual 316, 3) := by decide +kernel
theorem dX11_alterRow_8 : decode cX11_alterRow 8 = .ok (.ifCond .eq 29, 3) := by decide +kernel
theorem dX11_alterRow_11 : decode cX11_alterRow 11 = .ok (.iload_n 2, 1) := by decide +kernel
theorem dX11_alterRow_12 : decode cX11_alterRow 12 = .ok (.iconst 0, 1) := by decide +kernel
theorem dX11_alterRow_13 : decode cX11_alterRow 13 = .ok (.iconst 2, 1) := by decide +kernel
theorem dX11_alterRow_14 : decode cX11_alterRow 14 = .ok (.invokestatic 149, 3) := by decide +kernel
theorem dX11_alterRow_17 : decode cX11_alterRow 17 = .ok (.ifCond .eq 20, 3) := by decide +kernel
theorem dX11_alterRow_20 : decode cX11_alterRow 20 = .ok (.aload_n 0, 1) := by decide +kernel
theorem dX11_alterRow_21 : decode cX11_alterRow 21 = .ok (.getfield 55, 3) := by decide +kernel
theorem dX11_alterRow_24 : decode cX11_alterRow 24 = .ok (.getfield 319, 3) := by decide +kernel
theorem dX11_alterRow_27 : decode cX11_alterRow 27 = .ok (.iload_n 1, 1) := by decide +kernel
theorem dX11_alterRow_28 : decode cX11_alterRow 28 = .ok (.aaload, 1) := by decide +kernel
theorem dX11_alterRow_29 : decode cX11_alterRow 29 = .ok (.iload_n 2, 1) := by decide +kernel
theorem dX11_alterRow_30 : decode cX11_alterRow 30 = .ok (.iload_n 3, 1) := by decide +kernel
theorem dX11_alterRow_31 : decode cX11_alterRow 31 = .ok (.invokestatic 145, 3) := by decide +kernel
theorem dX11_alterRow_34 : decode cX11_alterRow 34 = .ok (.goto 5, 3) := by decide +kernel
theorem dX11_alterRow_37 : decode cX11_alterRow 37 = .ok (.bipush (-9), 2) := by decide +kernel
theorem dX11_alterRow_39 : decode cX11_alterRow 39 = .ok (.ireturn, 1) := by decide +kernel
theorem dX11_judge_0 : decode cX11_judge 0 = .ok (.aload_n 0, 1) := by decide +kernel
theorem dX11_judge_1 : decode cX11_judge 1 = .ok (.getfield 55, 3) := by decide +kernel
theorem dX11_judge_4 : decode cX11_judge 4 = .ok (.invokevirtual 323, 3) := by decide +kernel
theorem dX11_judge_7 : decode cX11_judge 7 = .ok (.ireturn, 1) := by decide +kernel
theorem dX11_sheet_0 : decode cX11_sheet 0 = .ok (.iload_n 1, 1) := by decide +kernel
theorem dX11_sheet_1 : decode cX11_sheet 1 = .ok (.invokestatic 326, 3) := by decide +kernel
theorem dX11_sheet_4 : decode cX11_sheet 4 = .ok (.ifCond .eq 12, 3) := by decide +kernel
theorem dX11_sheet_7 : decode cX11_sheet 7 = .ok (.iload_n 2, 1) := by decide +kernel
theorem dX11_sheet_8 : decode cX11_sheet 8 = .ok (.iconst (-1), 1) := by decide +kernel
theorem dX11_sheet_9 : decode cX11_sheet 9 = .ok (.iconst 4, 1) := by decide +kernel
theorem dX11_sheet_10 : decode cX11_sheet 10 = .ok (.invokestatic 149, 3) := by decide +kernel
theorem dX11_sheet_13 : decode cX11_sheet 13 = .ok (.ifCond .ne 5, 3) := by decide +kernel
theorem dX11_sheet_16 : decode cX11_sheet 16 = .ok (.iconst (-1), 1) := by decide +kernel
theorem dX11_sheet_17 : decode cX11_sheet 17 = .ok (.ireturn, 1) := by decide +kernel
theorem dX11_sheet_18 : decode cX11_sheet 18 = .ok (.iload_n 2, 1) := by decide +kernel
theorem dX11_sheet_19 : decode cX11_sheet 19 = .ok (.iconst (-1), 1) := by decide +kernel
theorem dX11_sheet_20 : decode cX11_sheet 20 = .ok (.if_icmp .ne 7, 3) := by decide +kernel
theorem dX11_sheet_23 : decode cX11_sheet 23 = .ok (.iconst 0, 1) := by decide +kernel
theorem dX11_sheet_24 : decode cX11_sheet 24 = .ok (.goto 4, 3) := by decide +kernel
theorem dX11_sheet_27 : decode cX11_sheet 27 = .ok (.iload_n 3, 1) := by decide +kernel
theorem dX11_sheet_28 : decode cX11_sheet 28 = .ok (.istore 4, 2) := by decide +kernel
theorem dX11_sheet_30 : decode cX11_sheet 30 = .ok (.iload 4, 2) := by decide +kernel
theorem dX11_sheet_32 : decode cX11_sheet 32 = .ok (.bipush 40, 2) := by decide +kernel
theorem dX11_sheet_34 : decode cX11_sheet 34 = .ok (.if_icmp .le 5, 3) := by decide +kernel
theorem dX11_sheet_37 : decode cX11_sheet 37 = .ok (.iconst (-1), 1) := by decide +kernel
theorem dX11_sheet_38 : decode cX11_sheet 38 = .ok (.ireturn, 1) := by decide +kernel
theorem dX11_sheet_39 : decode cX11_sheet 39 = .ok (.iload 4, 2) := by decide +kernel
theorem dX11_sheet_41 : decode cX11_sheet 41 = .ok (.ifCond .ge 6, 3) := by decide +kernel
theorem dX11_sheet_44 : decode cX11_sheet 44 = .ok (.bipush (-14), 2) := by decide +kernel
theorem dX11_sheet_46 : decode cX11_sheet 46 = .ok (.ireturn, 1) := by decide +kernel
theorem dX11_sheet_47 : decode cX11_sheet 47 = .ok (.aload_n 0, 1) := by decide +kernel
theorem dX11_sheet_48 : decode cX11_sheet 48 = .ok (.getfield 66, 3) := by decide +kernel
theorem dX11_sheet_51 : decode cX11_sheet 51 = .ok (.iload_n 1, 1) := by decide +kernel
theorem dX11_sheet_52 : decode cX11_sheet 52 = .ok (.iload_n 2, 1) := by decide +kernel
theorem dX11_sheet_53 : decode cX11_sheet 53 = .ok (.iastore, 1) := by decide +kernel
theorem dX11_sheet_54 : decode cX11_sheet 54 = .ok (.aload_n 0, 1) := by decide +kernel
theorem dX11_sheet_55 : decode cX11_sheet 55 = .ok (.getfield 76, 3) := by decide +kernel
theorem dX11_sheet_58 : decode cX11_sheet 58 = .ok (.iload_n 1, 1) := by decide +kernel
theorem dX11_sheet_59 : decode cX11_sheet 59 = .ok (.iload 4, 2) := by decide +kernel
theorem dX11_sheet_61 : decode cX11_sheet 61 = .ok (.iastore, 1) := by decide +kernel
theorem dX11_sheet_62 : decode cX11_sheet 62 = .ok (.aload_n 0, 1) := by decide +kernel
theorem dX11_sheet_63 : decode cX11_sheet 63 = .ok (.getfield 81, 3) := by decide +kernel
theorem dX11_sheet_66 : decode cX11_sheet 66 = .ok (.iload_n 1, 1) := by decide +kernel
theorem dX11_sheet_67 : decode cX11_sheet 67 = .ok (.aaload, 1) := by decide +kernel
theorem dX11_sheet_68 : decode cX11_sheet 68 = .ok (.lconst 0, 1) := by decide +kernel
theorem dX11_sheet_69 : decode cX11_sheet 69 = .ok (.invokestatic 329, 3) := by decide +kernel
theorem dX11_sheet_72 : decode cX11_sheet 72 = .ok (.iconst 1, 1) := by decide +kernel
theorem dX11_sheet_73 : decode cX11_sheet 73 = .ok (.ireturn, 1) := by decide +kernel
theorem dX11_write_0 : decode cX11_write 0 = .ok (.iload_n 1, 1) := by decide +kernel
theorem dX11_write_1 : decode cX11_write 1 = .ok (.invokestatic 326, 3) := by decide +kernel
theorem dX11_write_4 : decode cX11_write 4 = .ok (.ifCond .ne 5, 3) := by decide +kernel
theorem dX11_write_7 : decode cX11_write 7 = .ok (.iconst (-1), 1) := by decide +kernel
theorem dX11_write_8 : decode cX11_write 8 = .ok (.ireturn, 1) := by decide +kernel
theorem dX11_write_9 : decode cX11_write 9 = .ok (.aload_n 0, 1) := by decide +kernel
theorem dX11_write_10 : decode cX11_write 10 = .ok (.getfield 66, 3) := by decide +kernel
theorem dX11_write_13 : decode cX11_write 13 = .ok (.iload_n 1, 1) := by decide +kernel
theorem dX11_write_14 : decode cX11_write 14 = .ok (.iaload, 1) := by decide +kernel
theorem dX11_write_15 : decode cX11_write 15 = .ok (.iconst (-1), 1) := by decide +kernel
theorem dX11_write_16 : decode cX11_write 16 = .ok (.if_icmp .ne 6, 3) := by decide +kernel
theorem dX11_write_19 : decode cX11_write 19 = .ok (.bipush (-11), 2) := by decide +kernel
theorem dX11_write_21 : decode cX11_write 21 = .ok (.ireturn, 1) := by decide +kernel
theorem dX11_write_22 : decode cX11_write 22 = .ok (.aload_n 0, 1) := by decide +kernel
theorem dX11_write_23 : decode cX11_write 23 = .ok (.iload_n 1, 1) := by decide +kernel
theorem dX11_write_24 : decode cX11_write 24 = .ok (.iload_n 2, 1) := by decide +kernel
theorem dX11_write_25 : decode cX11_write 25 = .ok (.invokevirtual 332, 3) := by decide +kernel
theorem dX11_write_28 : decode cX11_write 28 = .ok (.ifCond .ne 6, 3) := by decide +kernel
theorem dX11_write_31 : decode cX11_write 31 = .ok (.bipush (-12), 2) := by decide +kernel
theorem dX11_write_33 : decode cX11_write 33 = .ok (.ireturn, 1) := by decide +kernel
theorem dX11_write_34 : decode cX11_write 34 = .ok (.aload_n 0, 1) := by decide +kernel
theorem dX11_write_35 : decode cX11_write 35 = .ok (.getfield 81, 3) := by decide +kernel
theorem dX11_write_38 : decode cX11_write 38 = .ok (.iload_n 1, 1) := by decide +kernel
theorem dX11_write_39 : decode cX11_write 39 = .ok (.aaload, 1) := by decide +kernel
theorem dX11_write_40 : decode cX11_write 40 = .ok (.iload_n 2, 1) := by decide +kernel
theorem dX11_write_41 : decode cX11_write 41 = .ok (.aload_n 0, 1) := by decide +kernel
theorem dX11_write_42 : decode cX11_write 42 = .ok (.getfield 66, 3) := by decide +kernel
theorem dX11_write_45 : decode cX11_write 45 = .ok (.iload_n 1, 1) := by decide +kernel
theorem dX11_write_46 : decode cX11_write 46 = .ok (.iaload, 1) := by decide +kernel
theorem dX11_write_47 : decode cX11_write 47 = .ok (.iload_n 3, 1) := by decide +kernel
theorem dX11_write_48 : decode cX11_write 48 = .ok (.invokestatic 336, 3) := by decide +kernel
theorem dX11_write_51 : decode cX11_write 51 = .ok (.lastore, 1) := by decide +kernel
theorem dX11_write_52 : decode cX11_write 52 = .ok (.iconst 1, 1) := by decide +kernel
theorem dX11_write_53 : decode cX11_write 53 = .ok (.ireturn, 1) := by decide +kernel
theorem dX11_narrowed_0 : decode cX11_narrowed 0 = .ok (.iload_n 0, 1) := by decide +kernel
theorem dX11_narrowed_1 : decode cX11_narrowed 1 = .ok (.tableswitch 53 0 4 #[35, 39, 53, 53, 43], 35) := by decide +kernel
theorem dX11_narrowed_36 : decode cX11_narrowed 36 = .ok (.iload_n 1, 1) := by decide +kernel
theorem dX11_narrowed_37 : decode cX11_narrowed 37 = .ok (.i2b, 1) := by decide +kernel
theorem dX11_narrowed_38 : decode cX11_narrowed 38 = .ok (.i2l, 1) := by decide +kernel
theorem dX11_narrowed_39 : decode cX11_narrowed 39 = .ok (.lreturn, 1) := by decide +kernel
theorem dX11_narrowed_40 : decode cX11_narrowed 40 = .ok (.iload_n 1, 1) := by decide +kernel
theorem dX11_narrowed_41 : decode cX11_narrowed 41 = .ok (.i2s, 1) := by decide +kernel
theorem dX11_narrowed_42 : decode cX11_narrowed 42 = .ok (.i2l, 1) := by decide +kernel
theorem dX11_narrowed_43 : decode cX11_narrowed 43 = .ok (.lreturn, 1) := by decide +kernel
theorem dX11_narrowed_44 : decode cX11_narrowed 44 = .ok (.iload_n 1, 1) := by decide +kernel
theorem dX11_narrowed_45 : decode cX11_narrowed 45 = .ok (.ifCond .eq 7, 3) := by decide +kernel
theorem dX11_narrowed_48 : decode cX11_narrowed 48 = .ok (.lconst 1, 1) := by decide +kernel
theorem dX11_narrowed_49 : decode cX11_narrowed 49 = .ok (.goto 4, 3) := by decide +kernel
theorem dX11_narrowed_52 : decode cX11_narrowed 52 = .ok (.lconst 0, 1) := by decide +kernel
theorem dX11_narrowed_53 : decode cX11_narrowed 53 = .ok (.lreturn, 1) := by decide +kernel
theorem dX11_narrowed_54 : decode cX11_narrowed 54 = .ok (.iload_n 1, 1) := by decide +kernel
theorem dX11_narrowed_55 : decode cX11_narrowed 55 = .ok (.i2l, 1) := by decide +kernel
theorem dX11_narrowed_56 : decode cX11_narrowed 56 = .ok (.lreturn, 1) := by decide +kernel
theorem dX11_item_0 : decode cX11_item 0 = .ok (.iload_n 1, 1) := by decide +kernel
theorem dX11_item_1 : decode cX11_item 1 = .ok (.invokestatic 326, 3) := by decide +kernel
theorem dX11_item_4 : decode cX11_item 4 = .ok (.ifCond .eq 10, 3) := by decide +kernel
theorem dX11_item_7 : decode cX11_item 7 = .ok (.iload_n 2, 1) := by decide +kernel
theorem dX11_item_8 : decode cX11_item 8 = .ok (.invokestatic 340, 3) := by decide +kernel
theorem dX11_item_11 : decode cX11_item 11 = .ok (.ifCond .ne 5, 3) := by decide +kernel
theorem dX11_item_14 : decode cX11_item 14 = .ok (.iconst (-1), 1) := by decide +kernel
theorem dX11_item_15 : decode cX11_item 15 = .ok (.ireturn, 1) := by decide +kernel
theorem dX11_item_16 : decode cX11_item 16 = .ok (.aload_n 0, 1) := by decide +kernel
theorem dX11_item_17 : decode cX11_item 17 = .ok (.iload_n 1, 1) := by decide +kernel
theorem dX11_item_18 : decode cX11_item 18 = .ok (.iload_n 2, 1) := by decide +kernel
theorem dX11_item_19 : decode cX11_item 19 = .ok (.invokevirtual 343, 3) := by decide +kernel
theorem dX11_item_22 : decode cX11_item 22 = .ok (.istore 4, 2) := by decide +kernel
theorem dX11_item_24 : decode cX11_item 24 = .ok (.iload 4, 2) := by decide +kernel
theorem dX11_item_26 : decode cX11_item 26 = .ok (.ifCond .eq 6, 3) := by decide +kernel
theorem dX11_item_29 : decode cX11_item 29 = .ok (.iload 4, 2) := by decide +kernel
theorem dX11_item_31 : decode cX11_item 31 = .ok (.ireturn, 1) := by decide +kernel
theorem dX11_item_32 : decode cX11_item 32 = .ok (.aload_n 0, 1) := by decide +kernel
theorem dX11_item_33 : decode cX11_item 33 = .ok (.iload_n 1, 1) := by decide +kernel
theorem dX11_item_34 : decode cX11_item 34 = .ok (.iload_n 3, 1) := by decide +kernel
theorem dX11_item_35 : decode cX11_item 35 = .ok (.invokevirtual 332, 3) := by decide +kernel
theorem dX11_item_38 : decode cX11_item 38 = .ok (.ifCond .eq 15, 3) := by decide +kernel
theorem dX11_item_41 : decode cX11_item 41 = .ok (.aload_n 0, 1) := by decide +kernel
theorem dX11_item_42 : decode cX11_item 42 = .ok (.getfield 81, 3) := by decide +kernel
theorem dX11_item_45 : decode cX11_item 45 = .ok (.iload_n 1, 1) := by decide +kernel
theorem dX11_item_46 : decode cX11_item 46 = .ok (.aaload, 1) := by decide +kernel
theorem dX11_item_47 : decode cX11_item 47 = .ok (.iload_n 3, 1) := by decide +kernel
theorem dX11_item_48 : decode cX11_item 48 = .ok (.laload, 1) := by decide +kernel
theorem dX11_item_49 : decode cX11_item 49 = .ok (.l2i, 1) := by decide +kernel
theorem dX11_item_50 : decode cX11_item 50 = .ok (.goto 5, 3) := by decide +kernel
theorem dX11_item_53 : decode cX11_item 53 = .ok (.bipush (-12), 2) := by decide +kernel
theorem dX11_item_55 : decode cX11_item 55 = .ok (.ireturn, 1) := by decide +kernel
theorem dX11_goAll_0 : decode cX11_goAll 0 = .ok (.aload_n 0, 1) := by decide +kernel
theorem dX11_goAll_1 : decode cX11_goAll 1 = .ok (.iload_n 1, 1) := by decide +kernel
theorem dX11_goAll_2 : decode cX11_goAll 2 = .ok (.iload_n 3, 1) := by decide +kernel
theorem dX11_goAll_3 : decode cX11_goAll 3 = .ok (.invokevirtual 346, 3) := by decide +kernel
theorem dX11_goAll_6 : decode cX11_goAll 6 = .ok (.istore 4, 2) := by decide +kernel
theorem dX11_goAll_8 : decode cX11_goAll 8 = .ok (.iload 4, 2) := by decide +kernel
theorem dX11_goAll_10 : decode cX11_goAll 10 = .ok (.ifCond .eq 6, 3) := by decide +kernel
theorem dX11_goAll_13 : decode cX11_goAll 13 = .ok (.iload 4, 2) := by decide +kernel
theorem dX11_goAll_15 : decode cX11_goAll 15 = .ok (.ireturn, 1) := by decide +kernel
theorem dX11_goAll_16 : decode cX11_goAll 16 = .ok (.iconst 0, 1) := by decide +kernel
theorem dX11_goAll_17 : decode cX11_goAll 17 = .ok (.istore 5, 2) := by decide +kernel
theorem dX11_goAll_19 : decode cX11_goAll 19 = .ok (.iconst 0, 1) := by decide +kernel
theorem dX11_goAll_20 : decode cX11_goAll 20 = .ok (.istore 6, 2) := by decide +kernel
theorem dX11_goAll_22 : decode cX11_goAll 22 = .ok (.iload 6, 2) := by decide +kernel
theorem dX11_goAll_24 : decode cX11_goAll 24 = .ok (.iload_n 3, 1) := by decide +kernel
theorem dX11_goAll_25 : decode cX11_goAll 25 = .ok (.if_icmp .ge 64, 3) := by decide +kernel
theorem dX11_goAll_28 : decode cX11_goAll 28 = .ok (.aload_n 0, 1) := by decide +kernel
theorem dX11_goAll_29 : decode cX11_goAll 29 = .ok (.iload_n 1, 1) := by decide +kernel
theorem dX11_goAll_30 : decode cX11_goAll 30 = .ok (.iload_n 2, 1) := by decide +kernel
theorem dX11_goAll_31 : decode cX11_goAll 31 = .ok (.iload 6, 2) := by decide +kernel
theorem dX11_goAll_33 : decode cX11_goAll 33 = .ok (.iadd, 1) := by decide +kernel
theorem dX11_goAll_34 : decode cX11_goAll 34 = .ok (.invokevirtual 332, 3) := by decide +kernel
theorem dX11_goAll_37 : decode cX11_goAll 37 = .ok (.ifCond .ne 6, 3) := by decide +kernel
theorem dX11_goAll_40 : decode cX11_goAll 40 = .ok (.bipush (-12), 2) := by decide +kernel
theorem dX11_goAll_42 : decode cX11_goAll 42 = .ok (.ireturn, 1) := by decide +kernel
theorem dX11_goAll_43 : decode cX11_goAll 43 = .ok (.aload_n 0, 1) := by decide +kernel
theorem dX11_goAll_44 : decode cX11_goAll 44 = .ok (.getfield 81, 3) := by decide +kernel
theorem dX11_goAll_47 : decode cX11_goAll 47 = .ok (.iload_n 1, 1) := by decide +kernel
theorem dX11_goAll_48 : decode cX11_goAll 48 = .ok (.aaload, 1) := by decide +kernel
theorem dX11_goAll_49 : decode cX11_goAll 49 = .ok (.iload_n 2, 1) := by decide +kernel
theorem dX11_goAll_50 : decode cX11_goAll 50 = .ok (.iload 6, 2) := by decide +kernel
theorem dX11_goAll_52 : decode cX11_goAll 52 = .ok (.iadd, 1) := by decide +kernel
theorem dX11_goAll_53 : decode cX11_goAll 53 = .ok (.laload, 1) := by decide +kernel
theorem dX11_goAll_54 : decode cX11_goAll 54 = .ok (.l2i, 1) := by decide +kernel
theorem dX11_goAll_55 : decode cX11_goAll 55 = .ok (.istore 7, 2) := by decide +kernel
theorem dX11_goAll_57 : decode cX11_goAll 57 = .ok (.aload_n 0, 1) := by decide +kernel
theorem dX11_goAll_58 : decode cX11_goAll 58 = .ok (.getfield 30, 3) := by decide +kernel
theorem dX11_goAll_61 : decode cX11_goAll 61 = .ok (.iload 7, 2) := by decide +kernel
theorem dX11_goAll_63 : decode cX11_goAll 63 = .ok (.invokevirtual 349, 3) := by decide +kernel
theorem dX11_goAll_66 : decode cX11_goAll 66 = .ok (.ifCond .eq 17, 3) := by decide +kernel
theorem dX11_goAll_69 : decode cX11_goAll 69 = .ok (.iload 5, 2) := by decide +kernel
theorem dX11_goAll_71 : decode cX11_goAll 71 = .ok (.aload_n 0, 1) := by decide +kernel
theorem dX11_goAll_72 : decode cX11_goAll 72 = .ok (.getfield 30, 3) := by decide +kernel
theorem dX11_goAll_75 : decode cX11_goAll 75 = .ok (.iload 7, 2) := by decide +kernel
theorem dX11_goAll_77 : decode cX11_goAll 77 = .ok (.invokevirtual 212, 3) := by decide +kernel
theorem dX11_goAll_80 : decode cX11_goAll 80 = .ok (.iadd, 1) := by decide +kernel
theorem dX11_goAll_81 : decode cX11_goAll 81 = .ok (.istore 5, 2) := by decide +kernel
theorem dX11_goAll_83 : decode cX11_goAll 83 = .ok (.iinc 6 1, 3) := by decide +kernel
theorem dX11_goAll_86 : decode cX11_goAll 86 = .ok (.goto (-64), 3) := by decide +kernel
theorem dX11_goAll_89 : decode cX11_goAll 89 = .ok (.iload 5, 2) := by decide +kernel
theorem dX11_goAll_91 : decode cX11_goAll 91 = .ok (.ireturn, 1) := by decide +kernel
theorem dX11_wouldBe_0 : decode cX11_wouldBe 0 = .ok (.aload_n 0, 1) := by decide +kernel
theorem dX11_wouldBe_1 : decode cX11_wouldBe 1 = .ok (.iload_n 1, 1) := by decide +kernel
theorem dX11_wouldBe_2 : decode cX11_wouldBe 2 = .ok (.iload_n 3, 1) := by decide +kernel
theorem dX11_wouldBe_3 : decode cX11_wouldBe 3 = .ok (.invokevirtual 346, 3) := by decide +kernel
theorem dX11_wouldBe_6 : decode cX11_wouldBe 6 = .ok (.istore 4, 2) := by decide +kernel
theorem dX11_wouldBe_8 : decode cX11_wouldBe 8 = .ok (.iload 4, 2) := by decide +kernel
theorem dX11_wouldBe_10 : decode cX11_wouldBe 10 = .ok (.ifCond .eq 6, 3) := by decide +kernel
theorem dX11_wouldBe_13 : decode cX11_wouldBe 13 = .ok (.iload 4, 2) := by decide +kernel
theorem dX11_wouldBe_15 : decode cX11_wouldBe 15 = .ok (.ireturn, 1) := by decide +kernel
theorem dX11_wouldBe_16 : decode cX11_wouldBe 16 = .ok (.aload_n 0, 1) := by decide +kernel
theorem dX11_wouldBe_17 : decode cX11_wouldBe 17 = .ok (.getfield 55, 3) := by decide +kernel
theorem dX11_wouldBe_20 : decode cX11_wouldBe 20 = .ok (.invokevirtual 352, 3) := by decide +kernel
theorem dX11_wouldBe_23 : decode cX11_wouldBe 23 = .ok (.aload_n 0, 1) := by decide +kernel
theorem dX11_wouldBe_24 : decode cX11_wouldBe 24 = .ok (.iload_n 1, 1) := by decide +kernel
theorem dX11_wouldBe_25 : decode cX11_wouldBe 25 = .ok (.iload_n 2, 1) := by decide +kernel
theorem dX11_wouldBe_26 : decode cX11_wouldBe 26 = .ok (.iload_n 3, 1) := by decide +kernel
theorem dX11_wouldBe_27 : decode cX11_wouldBe 27 = .ok (.invokevirtual 355, 3) := by decide +kernel
theorem dX11_wouldBe_30 : decode cX11_wouldBe 30 = .ok (.istore 5, 2) := by decide +kernel
theorem dX11_wouldBe_32 : decode cX11_wouldBe 32 = .ok (.aload_n 0, 1) := by decide +kernel
theorem dX11_wouldBe_33 : decode cX11_wouldBe 33 = .ok (.getfield 55, 3) := by decide +kernel
theorem dX11_wouldBe_36 : decode cX11_wouldBe 36 = .ok (.invokevirtual 358, 3) := by decide +kernel
theorem dX11_wouldBe_39 : decode cX11_wouldBe 39 = .ok (.iload 5, 2) := by decide +kernel
theorem dX11_wouldBe_41 : decode cX11_wouldBe 41 = .ok (.ireturn, 1) := by decide +kernel
theorem dX11_worthOfItems_0 : decode cX11_worthOfItems 0 = .ok (.iconst 0, 1) := by decide +kernel
theorem dX11_worthOfItems_1 : decode cX11_worthOfItems 1 = .ok (.istore 4, 2) := by decide +kernel
theorem dX11_worthOfItems_3 : decode cX11_worthOfItems 3 = .ok (.iconst 0, 1) := by decide +kernel
theorem dX11_worthOfItems_4 : decode cX11_worthOfItems 4 = .ok (.istore 5, 2) := by decide +kernel
theorem dX11_worthOfItems_6 : decode cX11_worthOfItems 6 = .ok (.iload 5, 2) := by decide +kernel
theorem dX11_worthOfItems_8 : decode cX11_worthOfItems 8 = .ok (.iload_n 3, 1) := by decide +kernel
theorem dX11_worthOfItems_9 : decode cX11_worthOfItems 9 = .ok (.if_icmp .ge 77, 3) := by decide +kernel
theorem dX11_worthOfItems_12 : decode cX11_worthOfItems 12 = .ok (.aload_n 0, 1) := by decide +kernel
theorem dX11_worthOfItems_13 : decode cX11_worthOfItems 13 = .ok (.iload_n 1, 1) := by decide +kernel
theorem dX11_worthOfItems_14 : decode cX11_worthOfItems 14 = .ok (.iload_n 2, 1) := by decide +kernel
theorem dX11_worthOfItems_15 : decode cX11_worthOfItems 15 = .ok (.iload 5, 2) := by decide +kernel
theorem dX11_worthOfItems_17 : decode cX11_worthOfItems 17 = .ok (.iadd, 1) := by decide +kernel
theorem dX11_worthOfItems_18 : decode cX11_worthOfItems 18 = .ok (.invokevirtual 332, 3) := by decide +kernel
theorem dX11_worthOfItems_21 : decode cX11_worthOfItems 21 = .ok (.ifCond .ne 6, 3) := by decide +kernel
theorem dX11_worthOfItems_24 : decode cX11_worthOfItems 24 = .ok (.bipush (-12), 2) := by decide +kernel
theorem dX11_worthOfItems_26 : decode cX11_worthOfItems 26 = .ok (.ireturn, 1) := by decide +kernel
theorem dX11_worthOfItems_27 : decode cX11_worthOfItems 27 = .ok (.aload_n 0, 1) := by decide +kernel
theorem dX11_worthOfItems_28 : decode cX11_worthOfItems 28 = .ok (.getfield 81, 3) := by decide +kernel
theorem dX11_worthOfItems_31 : decode cX11_worthOfItems 31 = .ok (.iload_n 1, 1) := by decide +kernel
theorem dX11_worthOfItems_32 : decode cX11_worthOfItems 32 = .ok (.aaload, 1) := by decide +kernel
theorem dX11_worthOfItems_33 : decode cX11_worthOfItems 33 = .ok (.iload_n 2, 1) := by decide +kernel
theorem dX11_worthOfItems_34 : decode cX11_worthOfItems 34 = .ok (.iload 5, 2) := by decide +kernel
theorem dX11_worthOfItems_36 : decode cX11_worthOfItems 36 = .ok (.iadd, 1) := by decide +kernel
theorem dX11_worthOfItems_37 : decode cX11_worthOfItems 37 = .ok (.laload, 1) := by decide +kernel
theorem dX11_worthOfItems_38 : decode cX11_worthOfItems 38 = .ok (.l2i, 1) := by decide +kernel
theorem dX11_worthOfItems_39 : decode cX11_worthOfItems 39 = .ok (.istore 6, 2) := by decide +kernel
theorem dX11_worthOfItems_41 : decode cX11_worthOfItems 41 = .ok (.aload_n 0, 1) := by decide +kernel
theorem dX11_worthOfItems_42 : decode cX11_worthOfItems 42 = .ok (.getfield 30, 3) := by decide +kernel
theorem dX11_worthOfItems_45 : decode cX11_worthOfItems 45 = .ok (.iload 6, 2) := by decide +kernel
theorem dX11_worthOfItems_47 : decode cX11_worthOfItems 47 = .ok (.invokevirtual 349, 3) := by decide +kernel
theorem dX11_worthOfItems_50 : decode cX11_worthOfItems 50 = .ok (.ifCond .eq 13, 3) := by decide +kernel
theorem dX11_worthOfItems_53 : decode cX11_worthOfItems 53 = .ok (.aload_n 0, 1) := by decide +kernel
theorem dX11_worthOfItems_54 : decode cX11_worthOfItems 54 = .ok (.getfield 30, 3) := by decide +kernel
theorem dX11_worthOfItems_57 : decode cX11_worthOfItems 57 = .ok (.invokevirtual 189, 3) := by decide +kernel
theorem dX11_worthOfItems_60 : decode cX11_worthOfItems 60 = .ok (.ifCond .eq 6, 3) := by decide +kernel
theorem dX11_worthOfItems_63 : decode cX11_worthOfItems 63 = .ok (.bipush (-4), 2) := by decide +kernel
theorem dX11_worthOfItems_65 : decode cX11_worthOfItems 65 = .ok (.ireturn, 1) := by decide +kernel
theorem dX11_worthOfItems_66 : decode cX11_worthOfItems 66 = .ok (.iload 4, 2) := by decide +kernel
theorem dX11_worthOfItems_68 : decode cX11_worthOfItems 68 = .ok (.aload_n 0, 1) := by decide +kernel
theorem dX11_worthOfItems_69 : decode cX11_worthOfItems 69 = .ok (.getfield 30, 3) := by decide +kernel
theorem dX11_worthOfItems_72 : decode cX11_worthOfItems 72 = .ok (.iload 6, 2) := by decide +kernel
theorem dX11_worthOfItems_74 : decode cX11_worthOfItems 74 = .ok (.invokevirtual 212, 3) := by decide +kernel
theorem dX11_worthOfItems_77 : decode cX11_worthOfItems 77 = .ok (.iadd, 1) := by decide +kernel
theorem dX11_worthOfItems_78 : decode cX11_worthOfItems 78 = .ok (.istore 4, 2) := by decide +kernel
theorem dX11_worthOfItems_80 : decode cX11_worthOfItems 80 = .ok (.iinc 5 1, 3) := by decide +kernel
theorem dX11_worthOfItems_83 : decode cX11_worthOfItems 83 = .ok (.goto (-77), 3) := by decide +kernel
theorem dX11_worthOfItems_86 : decode cX11_worthOfItems 86 = .ok (.iload 4, 2) := by decide +kernel
theorem dX11_worthOfItems_88 : decode cX11_worthOfItems 88 = .ok (.ireturn, 1) := by decide +kernel
theorem dX11_refusalOfActs_0 : decode cX11_refusalOfActs 0 = .ok (.iload_n 1, 1) := by decide +kernel
theorem dX11_refusalOfActs_1 : decode cX11_refusalOfActs 1 = .ok (.invokestatic 326, 3) := by decide +kernel
theorem dX11_refusalOfActs_4 : decode cX11_refusalOfActs 4 = .ok (.ifCond .eq 22, 3) := by decide +kernel
theorem dX11_refusalOfActs_7 : decode cX11_refusalOfActs 7 = .ok (.iload_n 2, 1) := by decide +kernel
theorem dX11_refusalOfActs_8 : decode cX11_refusalOfActs 8 = .ok (.iconst 0, 1) := by decide +kernel
theorem dX11_refusalOfActs_9 : decode cX11_refusalOfActs 9 = .ok (.bipush 20, 2) := by decide +kernel
theorem dX11_refusalOfActs_11 : decode cX11_refusalOfActs 11 = .ok (.invokestatic 149, 3) := by decide +kernel
theorem dX11_refusalOfActs_14 : decode cX11_refusalOfActs 14 = .ok (.ifCond .eq 12, 3) := by decide +kernel
theorem dX11_refusalOfActs_17 : decode cX11_refusalOfActs 17 = .ok (.aload_n 0, 1) := by decide +kernel
theorem dX11_refusalOfActs_18 : decode cX11_refusalOfActs 18 = .ok (.iload_n 1, 1) := by decide +kernel
theorem dX11_refusalOfActs_19 : decode cX11_refusalOfActs 19 = .ok (.iconst 0, 1) := by decide +kernel
theorem dX11_refusalOfActs_20 : decode cX11_refusalOfActs 20 = .ok (.invokevirtual 343, 3) := by decide +kernel
theorem dX11_refusalOfActs_23 : decode cX11_refusalOfActs 23 = .ok (.goto 4, 3) := by decide +kernel
theorem dX11_refusalOfActs_26 : decode cX11_refusalOfActs 26 = .ok (.iconst (-1), 1) := by decide +kernel
theorem dX11_refusalOfActs_27 : decode cX11_refusalOfActs 27 = .ok (.ireturn, 1) := by decide +kernel
theorem dX11_refusalAs_0 : decode cX11_refusalAs 0 = .ok (.aload_n 0, 1) := by decide +kernel
theorem dX11_refusalAs_1 : decode cX11_refusalAs 1 = .ok (.getfield 66, 3) := by decide +kernel
theorem dX11_refusalAs_4 : decode cX11_refusalAs 4 = .ok (.iload_n 1, 1) := by decide +kernel
theorem dX11_refusalAs_5 : decode cX11_refusalAs 5 = .ok (.iaload, 1) := by decide +kernel
theorem dX11_refusalAs_6 : decode cX11_refusalAs 6 = .ok (.iconst (-1), 1) := by decide +kernel
theorem dX11_refusalAs_7 : decode cX11_refusalAs 7 = .ok (.if_icmp .ne 6, 3) := by decide +kernel
theorem dX11_refusalAs_10 : decode cX11_refusalAs 10 = .ok (.bipush (-11), 2) := by decide +kernel
theorem dX11_refusalAs_12 : decode cX11_refusalAs 12 = .ok (.ireturn, 1) := by decide +kernel
theorem dX11_refusalAs_13 : decode cX11_refusalAs 13 = .ok (.aload_n 0, 1) := by decide +kernel
theorem dX11_refusalAs_14 : decode cX11_refusalAs 14 = .ok (.getfield 66, 3) := by decide +kernel
theorem dX11_refusalAs_17 : decode cX11_refusalAs 17 = .ok (.iload_n 1, 1) := by decide +kernel
theorem dX11_refusalAs_18 : decode cX11_refusalAs 18 = .ok (.iaload, 1) := by decide +kernel
theorem dX11_refusalAs_19 : decode cX11_refusalAs 19 = .ok (.iload_n 2, 1) := by decide +kernel
theorem dX11_refusalAs_20 : decode cX11_refusalAs 20 = .ok (.if_icmp .ne 7, 3) := by decide +kernel
theorem dX11_refusalAs_23 : decode cX11_refusalAs 23 = .ok (.iconst 0, 1) := by decide +kernel
theorem dX11_refusalAs_24 : decode cX11_refusalAs 24 = .ok (.goto 5, 3) := by decide +kernel
theorem dX11_refusalAs_27 : decode cX11_refusalAs 27 = .ok (.bipush (-13), 2) := by decide +kernel
theorem dX11_refusalAs_29 : decode cX11_refusalAs 29 = .ok (.ireturn, 1) := by decide +kernel
theorem dX11_hasItem_0 : decode cX11_hasItem 0 = .ok (.iload_n 2, 1) := by decide +kernel
theorem dX11_hasItem_1 : decode cX11_hasItem 1 = .ok (.iconst 0, 1) := by decide +kernel
theorem dX11_hasItem_2 : decode cX11_hasItem 2 = .ok (.aload_n 0, 1) := by decide +kernel
theorem dX11_hasItem_3 : decode cX11_hasItem 3 = .ok (.getfield 76, 3) := by decide +kernel
theorem dX11_hasItem_6 : decode cX11_hasItem 6 = .ok (.iload_n 1, 1) := by decide +kernel
theorem dX11_hasItem_7 : decode cX11_hasItem 7 = .ok (.iaload, 1) := by decide +kernel
theorem dX11_hasItem_8 : decode cX11_hasItem 8 = .ok (.iconst 1, 1) := by decide +kernel
theorem dX11_hasItem_9 : decode cX11_hasItem 9 = .ok (.isub, 1) := by decide +kernel
theorem dX11_hasItem_10 : decode cX11_hasItem 10 = .ok (.invokestatic 149, 3) := by decide +kernel
theorem dX11_hasItem_13 : decode cX11_hasItem 13 = .ok (.ireturn, 1) := by decide +kernel
theorem dX11_shelf_0 : decode cX11_shelf 0 = .ok (.iload_n 1, 1) := by decide +kernel
theorem dX11_shelf_1 : decode cX11_shelf 1 = .ok (.invokestatic 361, 3) := by decide +kernel
theorem dX11_shelf_4 : decode cX11_shelf 4 = .ok (.ifCond .ne 5, 3) := by decide +kernel
theorem dX11_shelf_7 : decode cX11_shelf 7 = .ok (.iconst (-1), 1) := by decide +kernel
theorem dX11_shelf_8 : decode cX11_shelf 8 = .ok (.ireturn, 1) := by decide +kernel
theorem dX11_shelf_9 : decode cX11_shelf 9 = .ok (.iload_n 2, 1) := by decide +kernel
theorem dX11_shelf_10 : decode cX11_shelf 10 = .ok (.tableswitch 77 0 2 #[26, 50, 68], 26) := by decide +kernel
theorem dX11_shelf_36 : decode cX11_shelf 36 = .ok (.aload_n 0, 1) := by decide +kernel
theorem dX11_shelf_37 : decode cX11_shelf 37 = .ok (.getfield 30, 3) := by decide +kernel
theorem dX11_shelf_40 : decode cX11_shelf 40 = .ok (.iload_n 3, 1) := by decide +kernel
theorem dX11_shelf_41 : decode cX11_shelf 41 = .ok (.invokevirtual 110, 3) := by decide +kernel
theorem dX11_shelf_44 : decode cX11_shelf 44 = .ok (.ifCond .eq 14, 3) := by decide +kernel
theorem dX11_shelf_47 : decode cX11_shelf 47 = .ok (.aload_n 0, 1) := by decide +kernel
theorem dX11_shelf_48 : decode cX11_shelf 48 = .ok (.iload_n 1, 1) := by decide +kernel
theorem dX11_shelf_49 : decode cX11_shelf 49 = .ok (.iconst 0, 1) := by decide +kernel
theorem dX11_shelf_50 : decode cX11_shelf 50 = .ok (.iload_n 3, 1) := by decide +kernel
theorem dX11_shelf_51 : decode cX11_shelf 51 = .ok (.iconst 0, 1) := by decide +kernel
theorem dX11_shelf_52 : decode cX11_shelf 52 = .ok (.invokevirtual 364, 3) := by decide +kernel
theorem dX11_shelf_55 : decode cX11_shelf 55 = .ok (.goto 4, 3) := by decide +kernel
theorem dX11_shelf_58 : decode cX11_shelf 58 = .ok (.iconst (-1), 1) := by decide +kernel
theorem dX11_shelf_59 : decode cX11_shelf 59 = .ok (.ireturn, 1) := by decide +kernel
theorem dX11_shelf_60 : decode cX11_shelf 60 = .ok (.iload_n 3, 1) := by decide +kernel
theorem dX11_shelf_61 : decode cX11_shelf 61 = .ok (.invokestatic 326, 3) := by decide +kernel
theorem dX11_shelf_64 : decode cX11_shelf 64 = .ok (.ifCond .eq 12, 3) := by decide +kernel
theorem dX11_shelf_67 : decode cX11_shelf 67 = .ok (.aload_n 0, 1) := by decide +kernel
theorem dX11_shelf_68 : decode cX11_shelf 68 = .ok (.iload_n 1, 1) := by decide +kernel
theorem dX11_shelf_69 : decode cX11_shelf 69 = .ok (.iload_n 3, 1) := by decide +kernel
theorem dX11_shelf_70 : decode cX11_shelf 70 = .ok (.invokevirtual 367, 3) := by decide +kernel
theorem dX11_shelf_73 : decode cX11_shelf 73 = .ok (.goto 4, 3) := by decide +kernel
theorem dX11_shelf_76 : decode cX11_shelf 76 = .ok (.iconst (-1), 1) := by decide +kernel
theorem dX11_shelf_77 : decode cX11_shelf 77 = .ok (.ireturn, 1) := by decide +kernel
theorem dX11_shelf_78 : decode cX11_shelf 78 = .ok (.aload_n 0, 1) := by decide +kernel
theorem dX11_shelf_79 : decode cX11_shelf 79 = .ok (.iload_n 1, 1) := by decide +kernel
theorem dX11_shelf_80 : decode cX11_shelf 80 = .ok (.iconst 2, 1) := by decide +kernel
theorem dX11_shelf_81 : decode cX11_shelf 81 = .ok (.iconst 0, 1) := by decide +kernel
theorem dX11_shelf_82 : decode cX11_shelf 82 = .ok (.iconst 0, 1) := by decide +kernel
theorem dX11_shelf_83 : decode cX11_shelf 83 = .ok (.invokevirtual 364, 3) := by decide +kernel
theorem dX11_shelf_86 : decode cX11_shelf 86 = .ok (.ireturn, 1) := by decide +kernel
theorem dX11_shelf_87 : decode cX11_shelf 87 = .ok (.iconst (-1), 1) := by decide +kernel
theorem dX11_shelf_88 : decode cX11_shelf 88 = .ok (.ireturn, 1) := by decide +kernel
theorem dX11_putRowOn_0 : decode cX11_putRowOn 0 = .ok (.aload_n 0, 1) := by decide +kernel
theorem dX11_putRowOn_1 : decode cX11_putRowOn 1 = .ok (.getfield 66, 3) := by decide +kernel
theorem dX11_putRowOn_4 : decode cX11_putRowOn 4 = .ok (.iload_n 2, 1) := by decide +kernel
theorem dX11_putRowOn_5 : decode cX11_putRowOn 5 = .ok (.iaload, 1) := by decide +kernel
theorem dX11_putRowOn_6 : decode cX11_putRowOn 6 = .ok (.iconst (-1), 1) := by decide +kernel
theorem dX11_putRowOn_7 : decode cX11_putRowOn 7 = .ok (.if_icmp .ne 12, 3) := by decide +kernel
theorem dX11_putRowOn_10 : decode cX11_putRowOn 10 = .ok (.aload_n 0, 1) := by decide +kernel
theorem dX11_putRowOn_11 : decode cX11_putRowOn 11 = .ok (.iload_n 1, 1) := by decide +kernel
theorem dX11_putRowOn_12 : decode cX11_putRowOn 12 = .ok (.iconst 2, 1) := by decide +kernel
theorem dX11_putRowOn_13 : decode cX11_putRowOn 13 = .ok (.iconst 0, 1) := by decide +kernel
theorem dX11_putRowOn_14 : decode cX11_putRowOn 14 = .ok (.iconst 0, 1) := by decide +kernel
theorem dX11_putRowOn_15 : decode cX11_putRowOn 15 = .ok (.invokevirtual 364, 3) := by decide +kernel
theorem dX11_putRowOn_18 : decode cX11_putRowOn 18 = .ok (.ireturn, 1) := by decide +kernel
theorem dX11_putRowOn_19 : decode cX11_putRowOn 19 = .ok (.aload_n 0, 1) := by decide +kernel
theorem dX11_putRowOn_20 : decode cX11_putRowOn 20 = .ok (.iload_n 1, 1) := by decide +kernel
theorem dX11_putRowOn_21 : decode cX11_putRowOn 21 = .ok (.iconst 1, 1) := by decide +kernel
theorem dX11_putRowOn_22 : decode cX11_putRowOn 22 = .ok (.aload_n 0, 1) := by decide +kernel
theorem dX11_putRowOn_23 : decode cX11_putRowOn 23 = .ok (.getfield 66, 3) := by decide +kernel
theorem dX11_putRowOn_26 : decode cX11_putRowOn 26 = .ok (.iload_n 2, 1) := by decide +kernel
theorem dX11_putRowOn_27 : decode cX11_putRowOn 27 = .ok (.iaload, 1) := by decide +kernel
theorem dX11_putRowOn_28 : decode cX11_putRowOn 28 = .ok (.aload_n 0, 1) := by decide +kernel
theorem dX11_putRowOn_29 : decode cX11_putRowOn 29 = .ok (.getfield 76, 3) := by decide +kernel
theorem dX11_putRowOn_32 : decode cX11_putRowOn 32 = .ok (.iload_n 2, 1) := by decide +kernel
theorem dX11_putRowOn_33 : decode cX11_putRowOn 33 = .ok (.iaload, 1) := by decide +kernel
theorem dX11_putRowOn_34 : decode cX11_putRowOn 34 = .ok (.invokevirtual 364, 3) := by decide +kernel
theorem dX11_putRowOn_37 : decode cX11_putRowOn 37 = .ok (.ireturn, 1) := by decide +kernel
theorem dX11_putOn_0 : decode cX11_putOn 0 = .ok (.aload_n 0, 1) := by decide +kernel
theorem dX11_putOn_1 : decode cX11_putOn 1 = .ok (.getfield 84, 3) := by decide +kernel
theorem dX11_putOn_4 : decode cX11_putOn 4 = .ok (.iload_n 1, 1) := by decide +kernel
theorem dX11_putOn_5 : decode cX11_putOn 5 = .ok (.iload_n 2, 1) := by decide +kernel
theorem dX11_putOn_6 : decode cX11_putOn 6 = .ok (.iastore, 1) := by decide +kernel
theorem dX11_putOn_7 : decode cX11_putOn 7 = .ok (.aload_n 0, 1) := by decide +kernel
theorem dX11_putOn_8 : decode cX11_putOn 8 = .ok (.getfield 87, 3) := by decide +kernel
theorem dX11_putOn_11 : decode cX11_putOn 11 = .ok (.iload_n 1, 1) := by decide +kernel
theorem dX11_putOn_12 : decode cX11_putOn 12 = .ok (.iload_n 3, 1) := by decide +kernel
theorem dX11_putOn_13 : decode cX11_putOn 13 = .ok (.iastore, 1) := by decide +kernel
theorem dX11_putOn_14 : decode cX11_putOn 14 = .ok (.aload_n 0, 1) := by decide +kernel
theorem dX11_putOn_15 : decode cX11_putOn 15 = .ok (.getfield 90, 3) := by decide +kernel
theorem dX11_putOn_18 : decode cX11_putOn 18 = .ok (.iload_n 1, 1) := by decide +kernel
theorem dX11_putOn_19 : decode cX11_putOn 19 = .ok (.iload 4, 2) := by decide +kernel
theorem dX11_putOn_21 : decode cX11_putOn 21 = .ok (.iastore, 1) := by decide +kernel
theorem dX11_putOn_22 : decode cX11_putOn 22 = .ok (.iconst 1, 1) := by decide +kernel
theorem dX11_putOn_23 : decode cX11_putOn 23 = .ok (.ireturn, 1) := by decide +kernel
theorem dX11_taken_0 : decode cX11_taken 0 = .ok (.iload_n 2, 1) := by decide +kernel
theorem dX11_taken_1 : decode cX11_taken 1 = .ok (.iconst 0, 1) := by decide +kernel
theorem dX11_taken_2 : decode cX11_taken 2 = .ok (.iconst 5, 1) := by decide +kernel
theorem dX11_taken_3 : decode cX11_taken 3 = .ok (.invokestatic 149, 3) := by decide +kernel
theorem dX11_taken_6 : decode cX11_taken 6 = .ok (.istore_n 3, 1) := by decide +kernel
theorem dX11_taken_7 : decode cX11_taken 7 = .ok (.iload_n 1, 1) := by decide +kernel
theorem dX11_taken_8 : decode cX11_taken 8 = .ok (.invokestatic 361, 3) := by decide +kernel
theorem dX11_taken_11 : decode cX11_taken 11 = .ok (.ifCond .eq 17, 3) := by decide +kernel
theorem dX11_taken_14 : decode cX11_taken 14 = .ok (.iload_n 3, 1) := by decide +kernel
theorem dX11_taken_15 : decode cX11_taken 15 = .ok (.ifCond .ne 15, 3) := by decide +kernel
theorem dX11_taken_18 : decode cX11_taken 18 = .ok (.iload_n 2, 1) := by decide +kernel
theorem dX11_taken_19 : decode cX11_taken 19 = .ok (.bipush 10, 2) := by decide +kernel
theorem dX11_taken_21 : decode cX11_taken 21 = .ok (.isub, 1) := by decide +kernel
theorem dX11_taken_22 : decode cX11_taken 22 = .ok (.invokestatic 340, 3) := by decide +kernel
theorem dX11_taken_25 : decode cX11_taken 25 = .ok (.ifCond .ne 5, 3) := by decide +kernel
theorem dX11_taken_28 : decode cX11_taken 28 = .ok (.iconst (-1), 1) := by decide +kernel
theorem dX11_taken_29 : decode cX11_taken 29 = .ok (.ireturn, 1) := by decide +kernel
theorem dX11_taken_30 : decode cX11_taken 30 = .ok (.aload_n 0, 1) := by decide +kernel
theorem dX11_taken_31 : decode cX11_taken 31 = .ok (.getfield 87, 3) := by decide +kernel
theorem dX11_taken_34 : decode cX11_taken 34 = .ok (.iload_n 1, 1) := by decide +kernel
theorem dX11_taken_35 : decode cX11_taken 35 = .ok (.iaload, 1) := by decide +kernel
theorem dX11_taken_36 : decode cX11_taken 36 = .ok (.istore 4, 2) := by decide +kernel
theorem dX11_taken_38 : decode cX11_taken 38 = .ok (.aload_n 0, 1) := by decide +kernel
theorem dX11_taken_39 : decode cX11_taken 39 = .ok (.iload_n 1, 1) := by decide +kernel
theorem dX11_taken_40 : decode cX11_taken 40 = .ok (.invokevirtual 370, 3) := by decide +kernel
theorem dX11_taken_43 : decode cX11_taken 43 = .ok (.ifCond .eq 32, 3) := by decide +kernel
theorem dX11_taken_46 : decode cX11_taken 46 = .ok (.iload_n 3, 1) := by decide +kernel
theorem dX11_taken_47 : decode cX11_taken 47 = .ok (.ifCond .eq 25, 3) := by decide +kernel
theorem dX11_taken_50 : decode cX11_taken 50 = .ok (.aload_n 0, 1) := by decide +kernel
theorem dX11_taken_51 : decode cX11_taken 51 = .ok (.getfield 30, 3) := by decide +kernel
theorem dX11_taken_54 : decode cX11_taken 54 = .ok (.getfield 113, 3) := by decide +kernel
theorem dX11_taken_57 : decode cX11_taken 57 = .ok (.iload 4, 2) := by decide +kernel
theorem dX11_taken_59 : decode cX11_taken 59 = .ok (.iaload, 1) := by decide +kernel
theorem dX11_taken_60 : decode cX11_taken 60 = .ok (.iload_n 2, 1) := by decide +kernel
theorem dX11_taken_61 : decode cX11_taken 61 = .ok (.invokestatic 373, 3) := by decide +kernel
theorem dX11_taken_64 : decode cX11_taken 64 = .ok (.ifCond .eq 8, 3) := by decide +kernel
theorem dX11_taken_67 : decode cX11_taken 67 = .ok (.iload 4, 2) := by decide +kernel
theorem dX11_taken_69 : decode cX11_taken 69 = .ok (.goto 5, 3) := by decide +kernel
theorem dX11_taken_72 : decode cX11_taken 72 = .ok (.bipush (-13), 2) := by decide +kernel
theorem dX11_taken_74 : decode cX11_taken 74 = .ok (.ireturn, 1) := by decide +kernel
theorem dX11_taken_75 : decode cX11_taken 75 = .ok (.aload_n 0, 1) := by decide +kernel
theorem dX11_taken_76 : decode cX11_taken 76 = .ok (.getfield 84, 3) := by decide +kernel
theorem dX11_taken_79 : decode cX11_taken 79 = .ok (.iload_n 1, 1) := by decide +kernel
theorem dX11_taken_80 : decode cX11_taken 80 = .ok (.iaload, 1) := by decide +kernel
theorem dX11_taken_81 : decode cX11_taken 81 = .ok (.iconst 1, 1) := by decide +kernel
theorem dX11_taken_82 : decode cX11_taken 82 = .ok (.if_icmp .ne 24, 3) := by decide +kernel
theorem dX11_taken_85 : decode cX11_taken 85 = .ok (.iload 4, 2) := by decide +kernel
theorem dX11_taken_87 : decode cX11_taken 87 = .ok (.iload_n 2, 1) := by decide +kernel
theorem dX11_taken_88 : decode cX11_taken 88 = .ok (.bipush 10, 2) := by decide +kernel
theorem dX11_taken_90 : decode cX11_taken 90 = .ok (.isub, 1) := by decide +kernel
theorem dX11_taken_91 : decode cX11_taken 91 = .ok (.if_icmp .ne 12, 3) := by decide +kernel
theorem dX11_taken_94 : decode cX11_taken 94 = .ok (.aload_n 0, 1) := by decide +kernel
theorem dX11_taken_95 : decode cX11_taken 95 = .ok (.getfield 90, 3) := by decide +kernel
theorem dX11_taken_98 : decode cX11_taken 98 = .ok (.iload_n 1, 1) := by decide +kernel
theorem dX11_taken_99 : decode cX11_taken 99 = .ok (.iaload, 1) := by decide +kernel
theorem dX11_taken_100 : decode cX11_taken 100 = .ok (.goto 5, 3) := by decide +kernel
theorem dX11_taken_103 : decode cX11_taken 103 = .ok (.bipush (-13), 2) := by decide +kernel
theorem dX11_taken_105 : decode cX11_taken 105 = .ok (.ireturn, 1) := by decide +kernel
theorem dX11_taken_106 : decode cX11_taken 106 = .ok (.bipush (-11), 2) := by decide +kernel
theorem dX11_taken_108 : decode cX11_taken 108 = .ok (.ireturn, 1) := by decide +kernel
theorem dX11_holdsVoice_0 : decode cX11_holdsVoice 0 = .ok (.aload_n 0, 1) := by decide +kernel
theorem dX11_holdsVoice_1 : decode cX11_holdsVoice 1 = .ok (.getfield 84, 3) := by decide +kernel
theorem dX11_holdsVoice_4 : decode cX11_holdsVoice 4 = .ok (.iload_n 1, 1) := by decide +kernel
theorem dX11_holdsVoice_5 : decode cX11_holdsVoice 5 = .ok (.iaload, 1) := by decide +kernel
theorem dX11_holdsVoice_6 : decode cX11_holdsVoice 6 = .ok (.ifCond .ne 23, 3) := by decide +kernel
theorem dX11_holdsVoice_9 : decode cX11_holdsVoice 9 = .ok (.aload_n 0, 1) := by decide +kernel
theorem dX11_holdsVoice_10 : decode cX11_holdsVoice 10 = .ok (.getfield 30, 3) := by decide +kernel
theorem dX11_holdsVoice_13 : decode cX11_holdsVoice 13 = .ok (.aload_n 0, 1) := by decide +kernel
theorem dX11_holdsVoice_14 : decode cX11_holdsVoice 14 = .ok (.getfield 87, 3) := by decide +kernel
theorem dX11_holdsVoice_17 : decode cX11_holdsVoice 17 = .ok (.iload_n 1, 1) := by decide +kernel
theorem dX11_holdsVoice_18 : decode cX11_holdsVoice 18 = .ok (.iaload, 1) := by decide +kernel
theorem dX11_holdsVoice_19 : decode cX11_holdsVoice 19 = .ok (.invokevirtual 110, 3) := by decide +kernel
theorem dX11_holdsVoice_22 : decode cX11_holdsVoice 22 = .ok (.ifCond .eq 7, 3) := by decide +kernel
theorem dX11_holdsVoice_25 : decode cX11_holdsVoice 25 = .ok (.iconst 1, 1) := by decide +kernel
theorem dX11_holdsVoice_26 : decode cX11_holdsVoice 26 = .ok (.goto 4, 3) := by decide +kernel
theorem dX11_holdsVoice_29 : decode cX11_holdsVoice 29 = .ok (.iconst 0, 1) := by decide +kernel
theorem dX11_holdsVoice_30 : decode cX11_holdsVoice 30 = .ok (.ireturn, 1) := by decide +kernel
theorem dX11_act_0 : decode cX11_act 0 = .ok (.iload_n 1, 1) := by decide +kernel
theorem dX11_act_1 : decode cX11_act 1 = .ok (.invokestatic 361, 3) := by decide +kernel
theorem dX11_act_4 : decode cX11_act 4 = .ok (.ifCond .eq 20, 3) := by decide +kernel
theorem dX11_act_7 : decode cX11_act 7 = .ok (.iload_n 2, 1) := by decide +kernel
theorem dX11_act_8 : decode cX11_act 8 = .ok (.iconst 0, 1) := by decide +kernel
theorem dX11_act_9 : decode cX11_act 9 = .ok (.iconst 3, 1) := by decide +kernel
theorem dX11_act_10 : decode cX11_act 10 = .ok (.invokestatic 149, 3) := by decide +kernel
theorem dX11_act_13 : decode cX11_act 13 = .ok (.ifCond .eq 11, 3) := by decide +kernel
theorem dX11_act_16 : decode cX11_act 16 = .ok (.aload_n 0, 1) := by decide +kernel
theorem dX11_act_17 : decode cX11_act 17 = .ok (.iload_n 1, 1) := by decide +kernel
theorem dX11_act_18 : decode cX11_act 18 = .ok (.invokevirtual 370, 3) := by decide +kernel
theorem dX11_act_21 : decode cX11_act 21 = .ok (.ifCond .ne 14, 3) := by decide +kernel
theorem dX11_act_24 : decode cX11_act 24 = .ok (.aload_n 0, 1) := by decide +kernel
theorem dX11_act_25 : decode cX11_act 25 = .ok (.getfield 62, 3) := by decide +kernel
theorem dX11_act_28 : decode cX11_act 28 = .ok (.iconst 0, 1) := by decide +kernel
theorem dX11_act_29 : decode cX11_act 29 = .ok (.iconst 0, 1) := by decide +kernel
theorem dX11_act_30 : decode cX11_act 30 = .ok (.invokevirtual 376, 3) := by decide +kernel
theorem dX11_act_33 : decode cX11_act 33 = .ok (.iconst 0, 1) := by decide +kernel
theorem dX11_act_34 : decode cX11_act 34 = .ok (.ireturn, 1) := by decide +kernel
theorem dX11_act_35 : decode cX11_act 35 = .ok (.aload_n 0, 1) := by decide +kernel
theorem dX11_act_36 : decode cX11_act 36 = .ok (.getfield 87, 3) := by decide +kernel
theorem dX11_act_39 : decode cX11_act 39 = .ok (.iload_n 1, 1) := by decide +kernel
theorem dX11_act_40 : decode cX11_act 40 = .ok (.iaload, 1) := by decide +kernel
theorem dX11_act_41 : decode cX11_act 41 = .ok (.istore 4, 2) := by decide +kernel
theorem dX11_act_43 : decode cX11_act 43 = .ok (.aload_n 0, 1) := by decide +kernel
theorem dX11_act_44 : decode cX11_act 44 = .ok (.getfield 62, 3) := by decide +kernel
theorem dX11_act_47 : decode cX11_act 47 = .ok (.iload 4, 2) := by decide +kernel
theorem dX11_act_49 : decode cX11_act 49 = .ok (.aload_n 0, 1) := by decide +kernel
theorem dX11_act_50 : decode cX11_act 50 = .ok (.getfield 30, 3) := by decide +kernel
theorem dX11_act_53 : decode cX11_act 53 = .ok (.getfield 119, 3) := by decide +kernel
theorem dX11_act_56 : decode cX11_act 56 = .ok (.iload 4, 2) := by decide +kernel
theorem dX11_act_58 : decode cX11_act 58 = .ok (.iaload, 1) := by decide +kernel
theorem dX11_act_59 : decode cX11_act 59 = .ok (.invokevirtual 376, 3) := by decide +kernel
theorem dX11_act_62 : decode cX11_act 62 = .ok (.iconst 0, 1) := by decide +kernel
theorem dX11_act_63 : decode cX11_act 63 = .ok (.istore 5, 2) := by decide +kernel
theorem dX11_act_65 : decode cX11_act 65 = .ok (.aload_n 0, 1) := by decide +kernel
theorem dX11_act_66 : decode cX11_act 66 = .ok (.getfield 30, 3) := by decide +kernel
theorem dX11_act_69 : decode cX11_act 69 = .ok (.iload 4, 2) := by decide +kernel
theorem dX11_act_71 : decode cX11_act 71 = .ok (.invokevirtual 132, 3) := by decide +kernel
theorem dX11_act_74 : decode cX11_act 74 = .ok (.astore 6, 2) := by decide +kernel
theorem dX11_act_76 : decode cX11_act 76 = .ok (.iload_n 2, 1) := by decide +kernel
theorem dX11_act_77 : decode cX11_act 77 = .ok (.tableswitch 72 0 2 #[27, 42, 57], 27) := by decide +kernel
theorem dX11_act_104 : decode cX11_act 104 = .ok (.aload 6, 2) := by decide +kernel
theorem dX11_act_106 : decode cX11_act 106 = .ok (.aload_n 0, 1) := by decide +kernel
theorem dX11_act_107 : decode cX11_act 107 = .ok (.getfield 62, 3) := by decide +kernel
theorem dX11_act_110 : decode cX11_act 110 = .ok (.iload_n 3, 1) := by decide +kernel
theorem dX11_act_111 : decode cX11_act 111 = .ok (.invokevirtual 379, 3) := by decide +kernel
theorem dX11_act_114 : decode cX11_act 114 = .ok (.istore 5, 2) := by decide +kernel
theorem dX11_act_116 : decode cX11_act 116 = .ok (.goto 45, 3) := by decide +kernel
theorem dX11_act_119 : decode cX11_act 119 = .ok (.aload 6, 2) := by decide +kernel
theorem dX11_act_121 : decode cX11_act 121 = .ok (.aload_n 0, 1) := by decide +kernel
theorem dX11_act_122 : decode cX11_act 122 = .ok (.getfield 62, 3) := by decide +kernel
theorem dX11_act_125 : decode cX11_act 125 = .ok (.iload_n 3, 1) := by decide +kernel
theorem dX11_act_126 : decode cX11_act 126 = .ok (.invokevirtual 383, 3) := by decide +kernel
theorem dX11_act_129 : decode cX11_act 129 = .ok (.istore 5, 2) := by decide +kernel
theorem dX11_act_131 : decode cX11_act 131 = .ok (.goto 30, 3) := by decide +kernel
theorem dX11_act_134 : decode cX11_act 134 = .ok (.aload 6, 2) := by decide +kernel
theorem dX11_act_136 : decode cX11_act 136 = .ok (.aload_n 0, 1) := by decide +kernel
theorem dX11_act_137 : decode cX11_act 137 = .ok (.getfield 62, 3) := by decide +kernel
theorem dX11_act_140 : decode cX11_act 140 = .ok (.iload_n 3, 1) := by decide +kernel
theorem dX11_act_141 : decode cX11_act 141 = .ok (.invokevirtual 386, 3) := by decide +kernel
theorem dX11_act_144 : decode cX11_act 144 = .ok (.istore 5, 2) := by decide +kernel
theorem dX11_act_146 : decode cX11_act 146 = .ok (.goto 15, 3) := by decide +kernel
theorem dX11_act_149 : decode cX11_act 149 = .ok (.aload 6, 2) := by decide +kernel
theorem dX11_act_151 : decode cX11_act 151 = .ok (.aload_n 0, 1) := by decide +kernel
theorem dX11_act_152 : decode cX11_act 152 = .ok (.getfield 62, 3) := by decide +kernel
theorem dX11_act_155 : decode cX11_act 155 = .ok (.iload_n 3, 1) := by decide +kernel
theorem dX11_act_156 : decode cX11_act 156 = .ok (.invokevirtual 389, 3) := by decide +kernel
theorem dX11_act_159 : decode cX11_act 159 = .ok (.istore 5, 2) := by decide +kernel
theorem dX11_act_161 : decode cX11_act 161 = .ok (.aload_n 0, 1) := by decide +kernel
theorem dX11_act_162 : decode cX11_act 162 = .ok (.getfield 62, 3) := by decide +kernel
theorem dX11_act_165 : decode cX11_act 165 = .ok (.getfield 392, 3) := by decide +kernel
theorem dX11_act_168 : decode cX11_act 168 = .ok (.ifCond .eq 8, 3) := by decide +kernel
theorem dX11_act_171 : decode cX11_act 171 = .ok (.bipush (-15), 2) := by decide +kernel
theorem dX11_act_173 : decode cX11_act 173 = .ok (.goto 5, 3) := by decide +kernel
theorem dX11_act_176 : decode cX11_act 176 = .ok (.iload 5, 2) := by decide +kernel
theorem dX11_act_178 : decode cX11_act 178 = .ok (.ireturn, 1) := by decide +kernel
theorem dX11_trace_0 : decode cX11_trace 0 = .ok (.iload_n 1, 1) := by decide +kernel
theorem dX11_trace_1 : decode cX11_trace 1 = .ok (.iconst 0, 1) := by decide +kernel
theorem dX11_trace_2 : decode cX11_trace 2 = .ok (.aload_n 0, 1) := by decide +kernel
theorem dX11_trace_3 : decode cX11_trace 3 = .ok (.getfield 62, 3) := by decide +kernel
theorem dX11_trace_6 : decode cX11_trace 6 = .ok (.getfield 395, 3) := by decide +kernel
theorem dX11_trace_9 : decode cX11_trace 9 = .ok (.iconst 1, 1) := by decide +kernel
theorem dX11_trace_10 : decode cX11_trace 10 = .ok (.isub, 1) := by decide +kernel
theorem dX11_trace_11 : decode cX11_trace 11 = .ok (.invokestatic 149, 3) := by decide +kernel
theorem dX11_trace_14 : decode cX11_trace 14 = .ok (.ifCond .eq 15, 3) := by decide +kernel
theorem dX11_trace_17 : decode cX11_trace 17 = .ok (.aload_n 0, 1) := by decide +kernel
theorem dX11_trace_18 : decode cX11_trace 18 = .ok (.getfield 62, 3) := by decide +kernel
theorem dX11_trace_21 : decode cX11_trace 21 = .ok (.getfield 398, 3) := by decide +kernel
theorem dX11_trace_24 : decode cX11_trace 24 = .ok (.iload_n 1, 1) := by decide +kernel
theorem dX11_trace_25 : decode cX11_trace 25 = .ok (.iaload, 1) := by decide +kernel
theorem dX11_trace_26 : decode cX11_trace 26 = .ok (.goto 5, 3) := by decide +kernel
theorem dX11_trace_29 : decode cX11_trace 29 = .ok (.bipush (-3), 2) := by decide +kernel
theorem dX11_trace_31 : decode cX11_trace 31 = .ok (.ireturn, 1) := by decide +kernel
theorem dX11_many_0 : decode cX11_many 0 = .ok (.iload_n 1, 1) := by decide +kernel
theorem dX11_many_1 : decode cX11_many 1 = .ok (.tableswitch 105 0 6 #[43, 51, 62, 73, 81, 89, 97], 43) := by decide +kernel
theorem dX11_many_44 : decode cX11_many 44 = .ok (.aload_n 0, 1) := by decide +kernel
theorem dX11_many_45 : decode cX11_many 45 = .ok (.getfield 30, 3) := by decide +kernel
theorem dX11_many_48 : decode cX11_many 48 = .ok (.getfield 401, 3) := by decide +kernel
theorem dX11_many_51 : decode cX11_many 51 = .ok (.ireturn, 1) := by decide +kernel
theorem dX11_many_52 : decode cX11_many 52 = .ok (.aload_n 0, 1) := by decide +kernel
theorem dX11_many_53 : decode cX11_many 53 = .ok (.getfield 30, 3) := by decide +kernel
theorem dX11_many_56 : decode cX11_many 56 = .ok (.getfield 197, 3) := by decide +kernel
theorem dX11_many_59 : decode cX11_many 59 = .ok (.getfield 402, 3) := by decide +kernel
theorem dX11_many_62 : decode cX11_many 62 = .ok (.ireturn, 1) := by decide +kernel
theorem dX11_many_63 : decode cX11_many 63 = .ok (.aload_n 0, 1) := by decide +kernel
theorem dX11_many_64 : decode cX11_many 64 = .ok (.getfield 30, 3) := by decide +kernel
theorem dX11_many_67 : decode cX11_many 67 = .ok (.getfield 186, 3) := by decide +kernel
theorem dX11_many_70 : decode cX11_many 70 = .ok (.invokestatic 405, 3) := by decide +kernel
theorem dX11_many_73 : decode cX11_many 73 = .ok (.ireturn, 1) := by decide +kernel
theorem dX11_many_74 : decode cX11_many 74 = .ok (.aload_n 0, 1) := by decide +kernel
theorem dX11_many_75 : decode cX11_many 75 = .ok (.getfield 30, 3) := by decide +kernel
theorem dX11_many_78 : decode cX11_many 78 = .ok (.getfield 286, 3) := by decide +kernel
theorem dX11_many_81 : decode cX11_many 81 = .ok (.ireturn, 1) := by decide +kernel
theorem dX11_many_82 : decode cX11_many 82 = .ok (.aload_n 0, 1) := by decide +kernel
theorem dX11_many_83 : decode cX11_many 83 = .ok (.getfield 55, 3) := by decide +kernel
theorem dX11_many_86 : decode cX11_many 86 = .ok (.getfield 410, 3) := by decide +kernel
theorem dX11_many_89 : decode cX11_many 89 = .ok (.ireturn, 1) := by decide +kernel
theorem dX11_many_90 : decode cX11_many 90 = .ok (.aload_n 0, 1) := by decide +kernel
theorem dX11_many_91 : decode cX11_many 91 = .ok (.getfield 46, 3) := by decide +kernel
theorem dX11_many_94 : decode cX11_many 94 = .ok (.getfield 413, 3) := by decide +kernel
theorem dX11_many_97 : decode cX11_many 97 = .ok (.ireturn, 1) := by decide +kernel
theorem dX11_many_98 : decode cX11_many 98 = .ok (.aload_n 0, 1) := by decide +kernel
theorem dX11_many_99 : decode cX11_many 99 = .ok (.getfield 62, 3) := by decide +kernel
theorem dX11_many_102 : decode cX11_many 102 = .ok (.getfield 395, 3) := by decide +kernel
theorem dX11_many_105 : decode cX11_many 105 = .ok (.ireturn, 1) := by decide +kernel
theorem dX11_many_106 : decode cX11_many 106 = .ok (.iconst (-1), 1) := by decide +kernel
theorem dX11_many_107 : decode cX11_many 107 = .ok (.ireturn, 1) := by decide +kernel
theorem dX11_keep_0 : decode cX11_keep 0 = .ok (.aload_n 0, 1) := by decide +kernel
theorem dX11_keep_1 : decode cX11_keep 1 = .ok (.getfield 36, 3) := by decide +kernel
theorem dX11_keep_4 : decode cX11_keep 4 = .ok (.aload_n 0, 1) := by decide +kernel
theorem dX11_keep_5 : decode cX11_keep 5 = .ok (.getfield 30, 3) := by decide +kernel
theorem dX11_keep_8 : decode cX11_keep 8 = .ok (.invokevirtual 416, 3) := by decide +kernel
theorem dX11_keep_11 : decode cX11_keep 11 = .ok (.aload_n 0, 1) := by decide +kernel
theorem dX11_keep_12 : decode cX11_keep 12 = .ok (.iconst 1, 1) := by decide +kernel
theorem dX11_keep_13 : decode cX11_keep 13 = .ok (.putfield 39, 3) := by decide +kernel
theorem dX11_keep_16 : decode cX11_keep 16 = .ok (.iconst 1, 1) := by decide +kernel
theorem dX11_keep_17 : decode cX11_keep 17 = .ok (.ireturn, 1) := by decide +kernel
theorem dX11_again_0 : decode cX11_again 0 = .ok (.aload_n 0, 1) := by decide +kernel
theorem dX11_again_1 : decode cX11_again 1 = .ok (.getfield 39, 3) := by decide +kernel
theorem dX11_again_4 : decode cX11_again 4 = .ok (.ifCond .ne 6, 3) := by decide +kernel
theorem dX11_again_7 : decode cX11_again 7 = .ok (.bipush (-3), 2) := by decide +kernel
theorem dX11_again_9 : decode cX11_again 9 = .ok (.ireturn, 1) := by decide +kernel
theorem dX11_again_10 : decode cX11_again 10 = .ok (.aload_n 0, 1) := by decide +kernel
theorem dX11_again_11 : decode cX11_again 11 = .ok (.getfield 30, 3) := by decide +kernel
theorem dX11_again_14 : decode cX11_again 14 = .ok (.aload_n 0, 1) := by decide +kernel
theorem dX11_again_15 : decode cX11_again 15 = .ok (.getfield 36, 3) := by decide +kernel
theorem dX11_again_18 : decode cX11_again 18 = .ok (.invokevirtual 416, 3) := by decide +kernel
theorem dX11_again_21 : decode cX11_again 21 = .ok (.aload_n 0, 1) := by decide +kernel
theorem dX11_again_22 : decode cX11_again 22 = .ok (.getfield 30, 3) := by decide +kernel
theorem dX11_again_25 : decode cX11_again 25 = .ok (.getfield 401, 3) := by decide +kernel
theorem dX11_again_28 : decode cX11_again 28 = .ok (.ireturn, 1) := by decide +kernel
theorem dX11_isWithin_0 : decode cX11_isWithin 0 = .ok (.iload_n 0, 1) := by decide +kernel
theorem dX11_isWithin_1 : decode cX11_isWithin 1 = .ok (.iload_n 1, 1) := by decide +kernel
theorem dX11_isWithin_2 : decode cX11_isWithin 2 = .ok (.if_icmp .lt 12, 3) := by decide +kernel
theorem dX11_isWithin_5 : decode cX11_isWithin 5 = .ok (.iload_n 0, 1) := by decide +kernel
theorem dX11_isWithin_6 : decode cX11_isWithin 6 = .ok (.iload_n 2, 1) := by decide +kernel
theorem dX11_isWithin_7 : decode cX11_isWithin 7 = .ok (.if_icmp .gt 7, 3) := by decide +kernel
theorem dX11_isWithin_10 : decode cX11_isWithin 10 = .ok (.iconst 1, 1) := by decide +kernel
theorem dX11_isWithin_11 : decode cX11_isWithin 11 = .ok (.goto 4, 3) := by decide +kernel
theorem dX11_isWithin_14 : decode cX11_isWithin 14 = .ok (.iconst 0, 1) := by decide +kernel
theorem dX11_isWithin_15 : decode cX11_isWithin 15 = .ok (.ireturn, 1) := by decide +kernel
theorem dX11_isKind_0 : decode cX11_isKind 0 = .ok (.iload_n 0, 1) := by decide +kernel
theorem dX11_isKind_1 : decode cX11_isKind 1 = .ok (.iconst 1, 1) := by decide +kernel
theorem dX11_isKind_2 : decode cX11_isKind 2 = .ok (.iconst 5, 1) := by decide +kernel
theorem dX11_isKind_3 : decode cX11_isKind 3 = .ok (.invokestatic 149, 3) := by decide +kernel
theorem dX11_isKind_6 : decode cX11_isKind 6 = .ok (.ireturn, 1) := by decide +kernel
theorem dX11_isPitch_0 : decode cX11_isPitch 0 = .ok (.iload_n 0, 1) := by decide +kernel
theorem dX11_isPitch_1 : decode cX11_isPitch 1 = .ok (.iconst 0, 1) := by decide +kernel
theorem dX11_isPitch_2 : decode cX11_isPitch 2 = .ok (.bipush 9, 2) := by decide +kernel
theorem dX11_isPitch_4 : decode cX11_isPitch 4 = .ok (.invokestatic 149, 3) := by decide +kernel
theorem dX11_isPitch_7 : decode cX11_isPitch 7 = .ok (.ireturn, 1) := by decide +kernel
theorem dX11_isStrength_0 : decode cX11_isStrength 0 = .ok (.iload_n 0, 1) := by decide +kernel
theorem dX11_isStrength_1 : decode cX11_isStrength 1 = .ok (.iconst 1, 1) := by decide +kernel
theorem dX11_isStrength_2 : decode cX11_isStrength 2 = .ok (.bipush 9, 2) := by decide +kernel
theorem dX11_isStrength_4 : decode cX11_isStrength 4 = .ok (.invokestatic 149, 3) := by decide +kernel
theorem dX11_isStrength_7 : decode cX11_isStrength 7 = .ok (.ireturn, 1) := by decide +kernel
theorem dX11_isPlace_0 : decode cX11_isPlace 0 = .ok (.iload_n 0, 1) := by decide +kernel
theorem dX11_isPlace_1 : decode cX11_isPlace 1 = .ok (.iconst 0, 1) := by decide +kernel
theorem dX11_isPlace_2 : decode cX11_isPlace 2 = .ok (.bipush 15, 2) := by decide +kernel
theorem dX11_isPlace_4 : decode cX11_isPlace 4 = .ok (.invokestatic 149, 3) := by decide +kernel
theorem dX11_isPlace_7 : decode cX11_isPlace 7 = .ok (.ireturn, 1) := by decide +kernel
theorem dX11_isTideTurn_0 : decode cX11_isTideTurn 0 = .ok (.iload_n 0, 1) := by decide +kernel
theorem dX11_isTideTurn_1 : decode cX11_isTideTurn 1 = .ok (.iconst 0, 1) := by decide +kernel
theorem dX11_isTideTurn_2 : decode cX11_isTideTurn 2 = .ok (.bipush 15, 2) := by decide +kernel
theorem dX11_isTideTurn_4 : decode cX11_isTideTurn 4 = .ok (.invokestatic 149, 3) := by decide +kernel
theorem dX11_isTideTurn_7 : decode cX11_isTideTurn 7 = .ok (.ireturn, 1) := by decide +kernel
theorem dX11_isPlan_0 : decode cX11_isPlan 0 = .ok (.iload_n 0, 1) := by decide +kernel
theorem dX11_isPlan_1 : decode cX11_isPlan 1 = .ok (.iconst 0, 1) := by decide +kernel
theorem dX11_isPlan_2 : decode cX11_isPlan 2 = .ok (.iconst 4, 1) := by decide +kernel
theorem dX11_isPlan_3 : decode cX11_isPlan 3 = .ok (.invokestatic 149, 3) := by decide +kernel
theorem dX11_isPlan_6 : decode cX11_isPlan 6 = .ok (.ireturn, 1) := by decide +kernel
theorem dX11_isGame_0 : decode cX11_isGame 0 = .ok (.iload_n 0, 1) := by decide +kernel
theorem dX11_isGame_1 : decode cX11_isGame 1 = .ok (.iconst 1, 1) := by decide +kernel
theorem dX11_isGame_2 : decode cX11_isGame 2 = .ok (.iconst 4, 1) := by decide +kernel
theorem dX11_isGame_3 : decode cX11_isGame 3 = .ok (.invokestatic 149, 3) := by decide +kernel
theorem dX11_isGame_6 : decode cX11_isGame 6 = .ok (.ireturn, 1) := by decide +kernel
theorem dX11_isSheet_0 : decode cX11_isSheet 0 = .ok (.iload_n 0, 1) := by decide +kernel
theorem dX11_isSheet_1 : decode cX11_isSheet 1 = .ok (.iconst 0, 1) := by decide +kernel
theorem dX11_isSheet_2 : decode cX11_isSheet 2 = .ok (.iconst 3, 1) := by decide +kernel
theorem dX11_isSheet_3 : decode cX11_isSheet 3 = .ok (.invokestatic 149, 3) := by decide +kernel
theorem dX11_isSheet_6 : decode cX11_isSheet 6 = .ok (.ireturn, 1) := by decide +kernel
theorem dX11_isSort_0 : decode cX11_isSort 0 = .ok (.iload_n 0, 1) := by decide +kernel
theorem dX11_isSort_1 : decode cX11_isSort 1 = .ok (.iconst 0, 1) := by decide +kernel
theorem dX11_isSort_2 : decode cX11_isSort 2 = .ok (.iconst 4, 1) := by decide +kernel
theorem dX11_isSort_3 : decode cX11_isSort 3 = .ok (.invokestatic 149, 3) := by decide +kernel
theorem dX11_isSort_6 : decode cX11_isSort 6 = .ok (.ireturn, 1) := by decide +kernel
theorem dX11_isShelf_0 : decode cX11_isShelf 0 = .ok (.iload_n 0, 1) := by decide +kernel
theorem dX11_isShelf_1 : decode cX11_isShelf 1 = .ok (.iconst 0, 1) := by decide +kernel
theorem dX11_isShelf_2 : decode cX11_isShelf 2 = .ok (.iconst 3, 1) := by decide +kernel
theorem dX11_isShelf_3 : decode cX11_isShelf 3 = .ok (.invokestatic 149, 3) := by decide +kernel
theorem dX11_isShelf_6 : decode cX11_isShelf 6 = .ok (.ireturn, 1) := by decide +kernel
theorem dX11_exchange_0 : decode cX11_exchange 0 = .ok (.iload_n 1, 1) := by decide +kernel
theorem dX11_exchange_1 : decode cX11_exchange 1 = .ok (.ifCond .lt 9, 3) := by decide +kernel
theorem dX11_exchange_4 : decode cX11_exchange 4 = .ok (.iload_n 1, 1) := by decide +kernel
theorem dX11_exchange_5 : decode cX11_exchange 5 = .ok (.aload_n 0, 1) := by decide +kernel
theorem dX11_exchange_6 : decode cX11_exchange 6 = .ok (.arraylength, 1) := by decide +kernel
theorem dX11_exchange_7 : decode cX11_exchange 7 = .ok (.if_icmp .lt 5, 3) := by decide +kernel
theorem dX11_exchange_10 : decode cX11_exchange 10 = .ok (.iconst (-1), 1) := by decide +kernel
theorem dX11_exchange_11 : decode cX11_exchange 11 = .ok (.ireturn, 1) := by decide +kernel
theorem dX11_exchange_12 : decode cX11_exchange 12 = .ok (.aload_n 0, 1) := by decide +kernel
theorem dX11_exchange_13 : decode cX11_exchange 13 = .ok (.iload_n 1, 1) := by decide +kernel
theorem dX11_exchange_14 : decode cX11_exchange 14 = .ok (.iaload, 1) := by decide +kernel
theorem dX11_exchange_15 : decode cX11_exchange 15 = .ok (.istore_n 3, 1) := by decide +kernel
theorem dX11_exchange_16 : decode cX11_exchange 16 = .ok (.aload_n 0, 1) := by decide +kernel
theorem dX11_exchange_17 : decode cX11_exchange 17 = .ok (.iload_n 1, 1) := by decide +kernel
theorem dX11_exchange_18 : decode cX11_exchange 18 = .ok (.iload_n 2, 1) := by decide +kernel
theorem dX11_exchange_19 : decode cX11_exchange 19 = .ok (.iastore, 1) := by decide +kernel
theorem dX11_exchange_20 : decode cX11_exchange 20 = .ok (.iload_n 3, 1) := by decide +kernel
theorem dX11_exchange_21 : decode cX11_exchange 21 = .ok (.ireturn, 1) := by decide +kernel
theorem dX11_leastOf_0 : decode cX11_leastOf 0 = .ok (.iconst 0, 1) := by decide +kernel
theorem dX11_leastOf_1 : decode cX11_leastOf 1 = .ok (.istore_n 1, 1) := by decide +kernel
theorem dX11_leastOf_2 : decode cX11_leastOf 2 = .ok (.iload_n 1, 1) := by decide +kernel
theorem dX11_leastOf_3 : decode cX11_leastOf 3 = .ok (.bipush 6, 2) := by decide +kernel
theorem dX11_leastOf_5 : decode cX11_leastOf 5 = .ok (.if_icmp .ge 20, 3) := by decide +kernel
theorem dX11_leastOf_8 : decode cX11_leastOf 8 = .ok (.iload_n 0, 1) := by decide +kernel
theorem dX11_leastOf_9 : decode cX11_leastOf 9 = .ok (.iload_n 1, 1) := by decide +kernel
theorem dX11_leastOf_10 : decode cX11_leastOf 10 = .ok (.ishr, 1) := by decide +kernel
theorem dX11_leastOf_11 : decode cX11_leastOf 11 = .ok (.iconst 1, 1) := by decide +kernel
theorem dX11_leastOf_12 : decode cX11_leastOf 12 = .ok (.iand, 1) := by decide +kernel
theorem dX11_leastOf_13 : decode cX11_leastOf 13 = .ok (.iconst 1, 1) := by decide +kernel
theorem dX11_leastOf_14 : decode cX11_leastOf 14 = .ok (.if_icmp .ne 5, 3) := by decide +kernel
theorem dX11_leastOf_17 : decode cX11_leastOf 17 = .ok (.iload_n 1, 1) := by decide +kernel
theorem dX11_leastOf_18 : decode cX11_leastOf 18 = .ok (.ireturn, 1) := by decide +kernel
theorem dX11_leastOf_19 : decode cX11_leastOf 19 = .ok (.iinc 1 1, 3) := by decide +kernel
theorem dX11_leastOf_22 : decode cX11_leastOf 22 = .ok (.goto (-20), 3) := by decide +kernel
theorem dX11_leastOf_25 : decode cX11_leastOf 25 = .ok (.bipush (-3), 2) := by decide +kernel
theorem dX11_leastOf_27 : decode cX11_leastOf 27 = .ok (.ireturn, 1) := by decide +kernel
theorem dX11_isUnder_0 : decode cX11_isUnder 0 = .ok (.iload_n 0, 1) := by decide +kernel
theorem dX11_isUnder_1 : decode cX11_isUnder 1 = .ok (.iload_n 1, 1) := by decide +kernel
theorem dX11_isUnder_2 : decode cX11_isUnder 2 = .ok (.if_icmp .eq 7, 3) := by decide +kernel
theorem dX11_isUnder_5 : decode cX11_isUnder 5 = .ok (.iload_n 1, 1) := by decide +kernel
theorem dX11_isUnder_6 : decode cX11_isUnder 6 = .ok (.ifCond .ne 5, 3) := by decide +kernel
theorem dX11_isUnder_9 : decode cX11_isUnder 9 = .ok (.iconst 1, 1) := by decide +kernel
theorem dX11_isUnder_10 : decode cX11_isUnder 10 = .ok (.ireturn, 1) := by decide +kernel
theorem dX11_isUnder_11 : decode cX11_isUnder 11 = .ok (.iload_n 0, 1) := by decide +kernel
theorem dX11_isUnder_12 : decode cX11_isUnder 12 = .ok (.ifCond .lt 24, 3) := by decide +kernel
theorem dX11_isUnder_15 : decode cX11_isUnder 15 = .ok (.iload_n 0, 1) := by decide +kernel
theorem dX11_isUnder_16 : decode cX11_isUnder 16 = .ok (.getstatic 419, 3) := by decide +kernel
theorem dX11_isUnder_19 : decode cX11_isUnder 19 = .ok (.arraylength, 1) := by decide +kernel
theorem dX11_isUnder_20 : decode cX11_isUnder 20 = .ok (.if_icmp .ge 16, 3) := by decide +kernel
theorem dX11_isUnder_23 : decode cX11_isUnder 23 = .ok (.getstatic 419, 3) := by decide +kernel
theorem dX11_isUnder_26 : decode cX11_isUnder 26 = .ok (.iload_n 0, 1) := by decide +kernel
theorem dX11_isUnder_27 : decode cX11_isUnder 27 = .ok (.iaload, 1) := by decide +kernel
theorem dX11_isUnder_28 : decode cX11_isUnder 28 = .ok (.iload_n 1, 1) := by decide +kernel
theorem dX11_isUnder_29 : decode cX11_isUnder 29 = .ok (.if_icmp .ne 7, 3) := by decide +kernel
theorem dX11_isUnder_32 : decode cX11_isUnder 32 = .ok (.iconst 1, 1) := by decide +kernel
theorem dX11_isUnder_33 : decode cX11_isUnder 33 = .ok (.goto 4, 3) := by decide +kernel
theorem dX11_isUnder_36 : decode cX11_isUnder 36 = .ok (.iconst 0, 1) := by decide +kernel
theorem dX11_isUnder_37 : decode cX11_isUnder 37 = .ok (.ireturn, 1) := by decide +kernel
theorem dX12_init_0 : decode cX12_init 0 = .ok (.aload_n 0, 1) := by decide +kernel
theorem dX12_init_1 : decode cX12_init 1 = .ok (.invokespecial 1, 3) := by decide +kernel
theorem dX12_init_4 : decode cX12_init 4 = .ok (.aload_n 0, 1) := by decide +kernel
theorem dX12_init_5 : decode cX12_init 5 = .ok (.sipush 296, 3) := by decide +kernel
theorem dX12_init_8 : decode cX12_init 8 = .ok (.newarray .int, 2) := by decide +kernel
theorem dX12_init_10 : decode cX12_init 10 = .ok (.putfield 7, 3) := by decide +kernel
theorem dX12_init_13 : decode cX12_init 13 = .ok (.aload_n 0, 1) := by decide +kernel
theorem dX12_init_14 : decode cX12_init 14 = .ok (.sipush 296, 3) := by decide +kernel
theorem dX12_init_17 : decode cX12_init 17 = .ok (.newarray .int, 2) := by decide +kernel
theorem dX12_init_19 : decode cX12_init 19 = .ok (.putfield 13, 3) := by decide +kernel
theorem dX12_init_22 : decode cX12_init 22 = .ok (.aload_n 0, 1) := by decide +kernel
theorem dX12_init_23 : decode cX12_init 23 = .ok (.sipush 296, 3) := by decide +kernel
theorem dX12_init_26 : decode cX12_init 26 = .ok (.newarray .int, 2) := by decide +kernel
theorem dX12_init_28 : decode cX12_init 28 = .ok (.putfield 16, 3) := by decide +kernel
theorem dX12_init_31 : decode cX12_init 31 = .ok (.aload_n 0, 1) := by decide +kernel
theorem dX12_init_32 : decode cX12_init 32 = .ok (.sipush 200, 3) := by decide +kernel
theorem dX12_init_35 : decode cX12_init 35 = .ok (.newarray .int, 2) := by decide +kernel
theorem dX12_init_37 : decode cX12_init 37 = .ok (.putfield 19, 3) := by decide +kernel
theorem dX12_init_40 : decode cX12_init 40 = .ok (.aload_n 0, 1) := by decide +kernel
theorem dX12_init_41 : decode cX12_init 41 = .ok (.bipush 6, 2) := by decide +kernel
theorem dX12_init_43 : decode cX12_init 43 = .ok (.newarray .int, 2) := by decide +kernel
theorem dX12_init_45 : decode cX12_init 45 = .ok (.putfield 22, 3) := by decide +kernel
theorem dX12_init_48 : decode cX12_init 48 = .ok (.aload_n 0, 1) := by decide +kernel
theorem dX12_init_49 : decode cX12_init 49 = .ok (.bipush 70, 2) := by decide +kernel
theorem dX12_init_51 : decode cX12_init 51 = .ok (.newarray .int, 2) := by decide +kernel
theorem dX12_init_53 : decode cX12_init 53 = .ok (.putfield 25, 3) := by decide +kernel
theorem dX12_init_56 : decode cX12_init 56 = .ok (.aload_n 0, 1) := by decide +kernel
theorem dX12_init_57 : decode cX12_init 57 = .ok (.iconst 4, 1) := by decide +kernel
theorem dX12_init_58 : decode cX12_init 58 = .ok (.newarray .int, 2) := by decide +kernel
theorem dX12_init_60 : decode cX12_init 60 = .ok (.putfield 28, 3) := by decide +kernel
theorem dX12_init_63 : decode cX12_init 63 = .ok (.aload_n 0, 1) := by decide +kernel
theorem dX12_init_64 : decode cX12_init 64 = .ok (.iconst 4, 1) := by decide +kernel
theorem dX12_init_65 : decode cX12_init 65 = .ok (.newarray .int, 2) := by decide +kernel
theorem dX12_init_67 : decode cX12_init 67 = .ok (.putfield 31, 3) := by decide +kernel
theorem dX12_init_70 : decode cX12_init 70 = .ok (.aload_n 0, 1) := by decide +kernel
theorem dX12_init_71 : decode cX12_init 71 = .ok (.bipush 12, 2) := by decide +kernel
theorem dX12_init_73 : decode cX12_init 73 = .ok (.newarray .int, 2) := by decide +kernel
theorem dX12_init_75 : decode cX12_init 75 = .ok (.putfield 34, 3) := by decide +kernel
theorem dX12_init_78 : decode cX12_init 78 = .ok (.aload_n 0, 1) := by decide +kernel
theorem dX12_init_79 : decode cX12_init 79 = .ok (.sipush 200, 3) := by decide +kernel
theorem dX12_init_82 : decode cX12_init 82 = .ok (.newarray .int, 2) := by decide +kernel
theorem dX12_init_84 : decode cX12_init 84 = .ok (.putfield 37, 3) := by decide +kernel
theorem dX12_init_87 : decode cX12_init 87 = .ok (.aload_n 0, 1) := by decide +kernel
theorem dX12_init_88 : decode cX12_init 88 = .ok (.iconst 4, 1) := by decide +kernel
theorem dX12_init_89 : decode cX12_init 89 = .ok (.newarray .int, 2) := by decide +kernel
theorem dX12_init_91 : decode cX12_init 91 = .ok (.dup, 1) := by decide +kernel
theorem dX12_init_92 : decode cX12_init 92 = .ok (.iconst 0, 1) := by decide +kernel
theorem dX12_init_93 : decode cX12_init 93 = .ok (.iconst (-1), 1) := by decide +kernel
theorem dX12_init_94 : decode cX12_init 94 = .ok (.iastore, 1) := by decide +kernel
theorem dX12_init_95 : decode cX12_init 95 = .ok (.dup, 1) := by decide +kernel
theorem dX12_init_96 : decode cX12_init 96 = .ok (.iconst 1, 1) := by decide +kernel
theorem dX12_init_97 : decode cX12_init 97 = .ok (.iconst (-1), 1) := by decide +kernel
theorem dX12_init_98 : decode cX12_init 98 = .ok (.iastore, 1) := by decide +kernel
theorem dX12_init_99 : decode cX12_init 99 = .ok (.dup, 1) := by decide +kernel
theorem dX12_init_100 : decode cX12_init 100 = .ok (.iconst 2, 1) := by decide +kernel
theorem dX12_init_101 : decode cX12_init 101 = .ok (.iconst (-1), 1) := by decide +kernel
theorem dX12_init_102 : decode cX12_init 102 = .ok (.iastore, 1) := by decide +kernel
theorem dX12_init_103 : decode cX12_init 103 = .ok (.dup, 1) := by decide +kernel
theorem dX12_init_104 : decode cX12_init 104 = .ok (.iconst 3, 1) := by decide +kernel
theorem dX12_init_105 : decode cX12_init 105 = .ok (.iconst (-1), 1) := by decide +kernel
theorem dX12_init_106 : decode cX12_init 106 = .ok (.iastore, 1) := by decide +kernel
theorem dX12_init_107 : decode cX12_init 107 = .ok (.putfield 40, 3) := by decide +kernel
theorem dX12_init_110 : decode cX12_init 110 = .ok (.aload_n 0, 1) := by decide +kernel
theorem dX12_init_111 : decode cX12_init 111 = .ok (.iconst 4, 1) := by decide +kernel
theorem dX12_init_112 : decode cX12_init 112 = .ok (.newarray .int, 2) := by decide +kernel
theorem dX12_init_114 : decode cX12_init 114 = .ok (.putfield 43, 3) := by decide +kernel
theorem dX12_init_117 : decode cX12_init 117 = .ok (.aload_n 0, 1) := by decide +kernel
theorem dX12_init_118 : decode cX12_init 118 = .ok (.sipush 160, 3) := by decide +kernel
theorem dX12_init_121 : decode cX12_init 121 = .ok (.newarray .int, 2) := by decide +kernel
theorem dX12_init_123 : decode cX12_init 123 = .ok (.putfield 46, 3) := by decide +kernel
theorem dX12_init_126 : decode cX12_init 126 = .ok (.aload_n 0, 1) := by decide +kernel
theorem dX12_init_127 : decode cX12_init 127 = .ok (.iconst 4, 1) := by decide +kernel
theorem dX12_init_128 : decode cX12_init 128 = .ok (.newarray .int, 2) := by decide +kernel
theorem dX12_init_130 : decode cX12_init 130 = .ok (.putfield 49, 3) := by decide +kernel
theorem dX12_init_133 : decode cX12_init 133 = .ok (.aload_n 0, 1) := by decide +kernel
theorem dX12_init_134 : decode cX12_init 134 = .ok (.iconst 4, 1) := by decide +kernel
theorem dX12_init_135 : decode cX12_init 135 = .ok (.newarray .int, 2) := by decide +kernel
theorem dX12_init_137 : decode cX12_init 137 = .ok (.putfield 52, 3) := by decide +kernel
theorem dX12_init_140 : decode cX12_init 140 = .ok (.aload_n 0, 1) := by decide +kernel
theorem dX12_init_141 : decode cX12_init 141 = .ok (.iconst 4, 1) := by decide +kernel
theorem dX12_init_142 : decode cX12_init 142 = .ok (.newarray .int, 2) := by decide +kernel
theorem dX12_init_144 : decode cX12_init 144 = .ok (.putfield 55, 3) := by decide +kernel
theorem dX12_init_147 : decode cX12_init 147 = .ok (.aload_n 0, 1) := by decide +kernel
theorem dX12_init_148 : decode cX12_init 148 = .ok (.bipush 30, 2) := by decide +kernel
theorem dX12_init_150 : decode cX12_init 150 = .ok (.newarray .int, 2) := by decide +kernel
theorem dX12_init_152 : decode cX12_init 152 = .ok (.putfield 58, 3) := by decide +kernel
theorem dX12_init_155 : decode cX12_init 155 = .ok (.aload_n 0, 1) := by decide +kernel
theorem dX12_init_156 : decode cX12_init 156 = .ok (.getfield 7, 3) := by decide +kernel
theorem dX12_init_159 : decode cX12_init 159 = .ok (.bipush 7, 2) := by decide +kernel
theorem dX12_init_161 : decode cX12_init 161 = .ok (.iconst 1, 1) := by decide +kernel
theorem dX12_init_162 : decode cX12_init 162 = .ok (.iastore, 1) := by decide +kernel
theorem dX12_init_163 : decode cX12_init 163 = .ok (.aload_n 0, 1) := by decide +kernel
theorem dX12_init_164 : decode cX12_init 164 = .ok (.getfield 7, 3) := by decide +kernel
theorem dX12_init_167 : decode cX12_init 167 = .ok (.iconst 2, 1) := by decide +kernel
theorem dX12_init_168 : decode cX12_init 168 = .ok (.bipush 12, 2) := by decide +kernel
theorem dX12_init_170 : decode cX12_init 170 = .ok (.iastore, 1) := by decide +kernel
theorem dX12_init_171 : decode cX12_init 171 = .ok (.aload_n 0, 1) := by decide +kernel
theorem dX12_init_172 : decode cX12_init 172 = .ok (.getfield 7, 3) := by decide +kernel
theorem dX12_init_175 : decode cX12_init 175 = .ok (.iconst 5, 1) := by decide +kernel
theorem dX12_init_176 : decode cX12_init 176 = .ok (.iconst 2, 1) := by decide +kernel
theorem dX12_init_177 : decode cX12_init 177 = .ok (.iastore, 1) := by decide +kernel
theorem dX12_init_178 : decode cX12_init 178 = .ok (.iconst 0, 1) := by decide +kernel
theorem dX12_init_179 : decode cX12_init 179 = .ok (.istore_n 1, 1) := by decide +kernel
theorem dX12_init_180 : decode cX12_init 180 = .ok (.iload_n 1, 1) := by decide +kernel
theorem dX12_init_181 : decode cX12_init 181 = .ok (.bipush 16, 2) := by decide +kernel
theorem dX12_init_183 : decode cX12_init 183 = .ok (.if_icmp .ge 19, 3) := by decide +kernel
theorem dX12_init_186 : decode cX12_init 186 = .ok (.aload_n 0, 1) := by decide +kernel
theorem dX12_init_187 : decode cX12_init 187 = .ok (.getfield 7, 3) := by decide +kernel
theorem dX12_init_190 : decode cX12_init 190 = .ok (.bipush 8, 2) := by decide +kernel
theorem dX12_init_192 : decode cX12_init 192 = .ok (.iload_n 1, 1) := by decide +kernel
theorem dX12_init_193 : decode cX12_init 193 = .ok (.iadd, 1) := by decide +kernel
theorem dX12_init_194 : decode cX12_init 194 = .ok (.iconst 1, 1) := by decide +kernel
theorem dX12_init_195 : decode cX12_init 195 = .ok (.iastore, 1) := by decide +kernel
theorem dX12_init_196 : decode cX12_init 196 = .ok (.iinc 1 1, 3) := by decide +kernel
theorem dX12_init_199 : decode cX12_init 199 = .ok (.goto (-19), 3) := by decide +kernel
theorem dX12_init_202 : decode cX12_init 202 = .ok (.return_, 1) := by decide +kernel
theorem dX12_in_0 : decode cX12_in 0 = .ok (.lload_n 0, 1) := by decide +kernel
theorem dX12_in_1 : decode cX12_in 1 = .ok (.lload_n 2, 1) := by decide +kernel
theorem dX12_in_2 : decode cX12_in 2 = .ok (.lcmp, 1) := by decide +kernel
theorem dX12_in_3 : decode cX12_in 3 = .ok (.ifCond .lt 14, 3) := by decide +kernel
theorem dX12_in_6 : decode cX12_in 6 = .ok (.lload_n 0, 1) := by decide +kernel
theorem dX12_in_7 : decode cX12_in 7 = .ok (.lload 4, 2) := by decide +kernel
theorem dX12_in_9 : decode cX12_in 9 = .ok (.lcmp, 1) := by decide +kernel
theorem dX12_in_10 : decode cX12_in 10 = .ok (.ifCond .gt 7, 3) := by decide +kernel
theorem dX12_in_13 : decode cX12_in 13 = .ok (.iconst 1, 1) := by decide +kernel
theorem dX12_in_14 : decode cX12_in 14 = .ok (.goto 4, 3) := by decide +kernel
theorem dX12_in_17 : decode cX12_in 17 = .ok (.iconst 0, 1) := by decide +kernel
theorem dX12_in_18 : decode cX12_in 18 = .ok (.ireturn, 1) := by decide +kernel
theorem dX12_isVoice_0 : decode cX12_isVoice 0 = .ok (.iload_n 1, 1) := by decide +kernel
theorem dX12_isVoice_1 : decode cX12_isVoice 1 = .ok (.i2l, 1) := by decide +kernel
theorem dX12_isVoice_2 : decode cX12_isVoice 2 = .ok (.lconst 0, 1) := by decide +kernel
theorem dX12_isVoice_3 : decode cX12_isVoice 3 = .ok (.aload_n 0, 1) := by decide +kernel
theorem dX12_isVoice_4 : decode cX12_isVoice 4 = .ok (.getfield 7, 3) := by decide +kernel
theorem dX12_isVoice_7 : decode cX12_isVoice 7 = .ok (.iconst 0, 1) := by decide +kernel
theorem dX12_isVoice_8 : decode cX12_isVoice 8 = .ok (.iaload, 1) := by decide +kernel
theorem dX12_isVoice_9 : decode cX12_isVoice 9 = .ok (.iconst 1, 1) := by decide +kernel
theorem dX12_isVoice_10 : decode cX12_isVoice 10 = .ok (.isub, 1) := by decide +kernel
theorem dX12_isVoice_11 : decode cX12_isVoice 11 = .ok (.i2l, 1) := by decide +kernel
theorem dX12_isVoice_12 : decode cX12_isVoice 12 = .ok (.invokestatic 61, 3) := by decide +kernel
theorem dX12_isVoice_15 : decode cX12_isVoice 15 = .ok (.ireturn, 1) := by decide +kernel
theorem dX12_areVoices_0 : decode cX12_areVoices 0 = .ok (.iload_n 1, 1) := by decide +kernel
theorem dX12_areVoices_1 : decode cX12_areVoices 1 = .ok (.i2l, 1) := by decide +kernel
theorem dX12_areVoices_2 : decode cX12_areVoices 2 = .ok (.lconst 0, 1) := by decide +kernel
theorem dX12_areVoices_3 : decode cX12_areVoices 3 = .ok (.iconst 1, 1) := by decide +kernel
theorem dX12_areVoices_4 : decode cX12_areVoices 4 = .ok (.aload_n 0, 1) := by decide +kernel
theorem dX12_areVoices_5 : decode cX12_areVoices 5 = .ok (.getfield 7, 3) := by decide +kernel
theorem dX12_areVoices_8 : decode cX12_areVoices 8 = .ok (.iconst 0, 1) := by decide +kernel
theorem dX12_areVoices_9 : decode cX12_areVoices 9 = .ok (.iaload, 1) := by decide +kernel
theorem dX12_areVoices_10 : decode cX12_areVoices 10 = .ok (.ishl, 1) := by decide +kernel
theorem dX12_areVoices_11 : decode cX12_areVoices 11 = .ok (.iconst 1, 1) := by decide +kernel
theorem dX12_areVoices_12 : decode cX12_areVoices 12 = .ok (.isub, 1) := by decide +kernel
theorem dX12_areVoices_13 : decode cX12_areVoices 13 = .ok (.i2l, 1) := by decide +kernel
theorem dX12_areVoices_14 : decode cX12_areVoices 14 = .ok (.invokestatic 61, 3) := by decide +kernel
theorem dX12_areVoices_17 : decode cX12_areVoices 17 = .ok (.ireturn, 1) := by decide +kernel
theorem dX12_puts_0 : decode cX12_puts 0 = .ok (.iconst 0, 1) := by decide +kernel
theorem dX12_puts_1 : decode cX12_puts 1 = .ok (.istore_n 1, 1) := by decide +kernel
theorem dX12_puts_2 : decode cX12_puts 2 = .ok (.iload_n 1, 1) := by decide +kernel
theorem dX12_puts_3 : decode cX12_puts 3 = .ok (.sipush 296, 3) := by decide +kernel
theorem dX12_puts_6 : decode cX12_puts 6 = .ok (.if_icmp .ge 21, 3) := by decide +kernel
theorem dX12_puts_9 : decode cX12_puts 9 = .ok (.aload_n 0, 1) := by decide +kernel
theorem dX12_puts_10 : decode cX12_puts 10 = .ok (.getfield 16, 3) := by decide +kernel
theorem dX12_puts_13 : decode cX12_puts 13 = .ok (.iload_n 1, 1) := by decide +kernel
theorem dX12_puts_14 : decode cX12_puts 14 = .ok (.aload_n 0, 1) := by decide +kernel
theorem dX12_puts_15 : decode cX12_puts 15 = .ok (.getfield 7, 3) := by decide +kernel
theorem dX12_puts_18 : decode cX12_puts 18 = .ok (.iload_n 1, 1) := by decide +kernel
theorem dX12_puts_19 : decode cX12_puts 19 = .ok (.iaload, 1) := by decide +kernel
theorem dX12_puts_20 : decode cX12_puts 20 = .ok (.iastore, 1) := by decide +kernel
theorem dX12_puts_21 : decode cX12_puts 21 = .ok (.iinc 1 1, 3) := by decide +kernel
theorem dX12_puts_24 : decode cX12_puts 24 = .ok (.goto (-22), 3) := by decide +kernel
theorem dX12_puts_27 : decode cX12_puts 27 = .ok (.return_, 1) := by decide +kernel
theorem dX12_putsBack_0 : decode cX12_putsBack 0 = .ok (.iconst 0, 1) := by decide +kernel
theorem dX12_putsBack_1 : decode cX12_putsBack 1 = .ok (.istore_n 1, 1) := by decide +kernel
theorem dX12_putsBack_2 : decode cX12_putsBack 2 = .ok (.iload_n 1, 1) := by decide +kernel
theorem dX12_putsBack_3 : decode cX12_putsBack 3 = .ok (.sipush 296, 3) := by decide +kernel
theorem dX12_putsBack_6 : decode cX12_putsBack 6 = .ok (.if_icmp .ge 21, 3) := by decide +kernel
theorem dX12_putsBack_9 : decode cX12_putsBack 9 = .ok (.aload_n 0, 1) := by decide +kernel
theorem dX12_putsBack_10 : decode cX12_putsBack 10 = .ok (.getfield 7, 3) := by decide +kernel
theorem dX12_putsBack_13 : decode cX12_putsBack 13 = .ok (.iload_n 1, 1) := by decide +kernel
theorem dX12_putsBack_14 : decode cX12_putsBack 14 = .ok (.aload_n 0, 1) := by decide +kernel
theorem dX12_putsBack_15 : decode cX12_putsBack 15 = .ok (.getfield 16, 3) := by decide +kernel
theorem dX12_putsBack_18 : decode cX12_putsBack 18 = .ok (.iload_n 1, 1) := by decide +kernel
theorem dX12_putsBack_19 : decode cX12_putsBack 19 = .ok (.iaload, 1) := by decide +kernel
theorem dX12_putsBack_20 : decode cX12_putsBack 20 = .ok (.iastore, 1) := by decide +kernel
theorem dX12_putsBack_21 : decode cX12_putsBack 21 = .ok (.iinc 1 1, 3) := by decide +kernel
theorem dX12_putsBack_24 : decode cX12_putsBack 24 = .ok (.goto (-22), 3) := by decide +kernel
theorem dX12_putsBack_27 : decode cX12_putsBack 27 = .ok (.return_, 1) := by decide +kernel
theorem dX12_becomes_0 : decode cX12_becomes 0 = .ok (.aload_n 0, 1) := by decide +kernel
theorem dX12_becomes_1 : decode cX12_becomes 1 = .ok (.getfield 7, 3) := by decide +kernel
theorem dX12_becomes_4 : decode cX12_becomes 4 = .ok (.iload_n 1, 1) := by decide +kernel
theorem dX12_becomes_5 : decode cX12_becomes 5 = .ok (.iaload, 1) := by decide +kernel
theorem dX12_becomes_6 : decode cX12_becomes 6 = .ok (.istore_n 3, 1) := by decide +kernel
theorem dX12_becomes_7 : decode cX12_becomes 7 = .ok (.aload_n 0, 1) := by decide +kernel
theorem dX12_becomes_8 : decode cX12_becomes 8 = .ok (.getfield 7, 3) := by decide +kernel
theorem dX12_becomes_11 : decode cX12_becomes 11 = .ok (.iload_n 1, 1) := by decide +kernel
theorem dX12_becomes_12 : decode cX12_becomes 12 = .ok (.iload_n 2, 1) := by decide +kernel
theorem dX12_becomes_13 : decode cX12_becomes 13 = .ok (.iastore, 1) := by decide +kernel
theorem dX12_becomes_14 : decode cX12_becomes 14 = .ok (.iload_n 3, 1) := by decide +kernel
theorem dX12_becomes_15 : decode cX12_becomes 15 = .ok (.ireturn, 1) := by decide +kernel
theorem dX12_at_0 : decode cX12_at 0 = .ok (.bipush 24, 2) := by decide +kernel
theorem dX12_at_2 : decode cX12_at 2 = .ok (.iconst 5, 1) := by decide +kernel
theorem dX12_at_3 : decode cX12_at 3 = .ok (.iload_n 0, 1) := by decide +kernel
theorem dX12_at_4 : decode cX12_at 4 = .ok (.imul, 1) := by decide +kernel
theorem dX12_at_5 : decode cX12_at 5 = .ok (.iadd, 1) := by decide +kernel
theorem dX12_at_6 : decode cX12_at 6 = .ok (.iload_n 1, 1) := by decide +kernel
theorem dX12_at_7 : decode cX12_at 7 = .ok (.iadd, 1) := by decide +kernel
theorem dX12_at_8 : decode cX12_at 8 = .ok (.ireturn, 1) := by decide +kernel
theorem dX12_its_0 : decode cX12_its 0 = .ok (.aload_n 0, 1) := by decide +kernel
theorem dX12_its_1 : decode cX12_its 1 = .ok (.getfield 7, 3) := by decide +kernel
theorem dX12_its_4 : decode cX12_its 4 = .ok (.iload_n 1, 1) := by decide +kernel
theorem dX12_its_5 : decode cX12_its 5 = .ok (.iload_n 2, 1) := by decide +kernel
theorem dX12_its_6 : decode cX12_its 6 = .ok (.invokestatic 65, 3) := by decide +kernel
theorem dX12_its_9 : decode cX12_its 9 = .ok (.iaload, 1) := by decide +kernel
theorem dX12_its_10 : decode cX12_its 10 = .ok (.ireturn, 1) := by decide +kernel
theorem dX12_isKind_0 : decode cX12_isKind 0 = .ok (.iload_n 0, 1) := by decide +kernel
theorem dX12_isKind_1 : decode cX12_isKind 1 = .ok (.i2l, 1) := by decide +kernel
theorem dX12_isKind_2 : decode cX12_isKind 2 = .ok (.lconst 1, 1) := by decide +kernel
theorem dX12_isKind_3 : decode cX12_isKind 3 = .ok (.ldc2_w 69, 3) := by decide +kernel
theorem dX12_isKind_6 : decode cX12_isKind 6 = .ok (.invokestatic 61, 3) := by decide +kernel
theorem dX12_isKind_9 : decode cX12_isKind 9 = .ok (.ireturn, 1) := by decide +kernel
theorem dX12_isPart_0 : decode cX12_isPart 0 = .ok (.iload_n 0, 1) := by decide +kernel
theorem dX12_isPart_1 : decode cX12_isPart 1 = .ok (.tableswitch 57 1 3 #[27, 37, 47], 27) := by decide +kernel
theorem dX12_isPart_28 : decode cX12_isPart 28 = .ok (.iload_n 1, 1) := by decide +kernel
theorem dX12_isPart_29 : decode cX12_isPart 29 = .ok (.i2l, 1) := by decide +kernel
theorem dX12_isPart_30 : decode cX12_isPart 30 = .ok (.lconst 0, 1) := by decide +kernel
theorem dX12_isPart_31 : decode cX12_isPart 31 = .ok (.ldc2_w 71, 3) := by decide +kernel
theorem dX12_isPart_34 : decode cX12_isPart 34 = .ok (.invokestatic 61, 3) := by decide +kernel
theorem dX12_isPart_37 : decode cX12_isPart 37 = .ok (.ireturn, 1) := by decide +kernel
theorem dX12_isPart_38 : decode cX12_isPart 38 = .ok (.iload_n 1, 1) := by decide +kernel
theorem dX12_isPart_39 : decode cX12_isPart 39 = .ok (.i2l, 1) := by decide +kernel
theorem dX12_isPart_40 : decode cX12_isPart 40 = .ok (.lconst 1, 1) := by decide +kernel
theorem dX12_isPart_41 : decode cX12_isPart 41 = .ok (.ldc2_w 71, 3) := by decide +kernel
theorem dX12_isPart_44 : decode cX12_isPart 44 = .ok (.invokestatic 61, 3) := by decide +kernel
theorem dX12_isPart_47 : decode cX12_isPart 47 = .ok (.ireturn, 1) := by decide +kernel
theorem dX12_isPart_48 : decode cX12_isPart 48 = .ok (.iload_n 1, 1) := by decide +kernel
theorem dX12_isPart_49 : decode cX12_isPart 49 = .ok (.i2l, 1) := by decide +kernel
theorem dX12_isPart_50 : decode cX12_isPart 50 = .ok (.lconst 0, 1) := by decide +kernel
theorem dX12_isPart_51 : decode cX12_isPart 51 = .ok (.ldc2_w 73, 3) := by decide +kernel
theorem dX12_isPart_54 : decode cX12_isPart 54 = .ok (.invokestatic 61, 3) := by decide +kernel
theorem dX12_isPart_57 : decode cX12_isPart 57 = .ok (.ireturn, 1) := by decide +kernel
theorem dX12_isPart_58 : decode cX12_isPart 58 = .ok (.iload_n 0, 1) := by decide +kernel
theorem dX12_isPart_59 : decode cX12_isPart 59 = .ok (.iconst 4, 1) := by decide +kernel
theorem dX12_isPart_60 : decode cX12_isPart 60 = .ok (.if_icmp .ne 17, 3) := by decide +kernel
theorem dX12_isPart_63 : decode cX12_isPart 63 = .ok (.iload_n 1, 1) := by decide +kernel
theorem dX12_isPart_64 : decode cX12_isPart 64 = .ok (.i2l, 1) := by decide +kernel
theorem dX12_isPart_65 : decode cX12_isPart 65 = .ok (.lconst 0, 1) := by decide +kernel
theorem dX12_isPart_66 : decode cX12_isPart 66 = .ok (.lconst 1, 1) := by decide +kernel
theorem dX12_isPart_67 : decode cX12_isPart 67 = .ok (.invokestatic 61, 3) := by decide +kernel
theorem dX12_isPart_70 : decode cX12_isPart 70 = .ok (.ifCond .eq 7, 3) := by decide +kernel
theorem dX12_isPart_73 : decode cX12_isPart 73 = .ok (.iconst 1, 1) := by decide +kernel
theorem dX12_isPart_74 : decode cX12_isPart 74 = .ok (.goto 4, 3) := by decide +kernel
theorem dX12_isPart_77 : decode cX12_isPart 77 = .ok (.iconst 0, 1) := by decide +kernel
theorem dX12_isPart_78 : decode cX12_isPart 78 = .ok (.ireturn, 1) := by decide +kernel
theorem dX12_voice_0 : decode cX12_voice 0 = .ok (.iload_n 1, 1) := by decide +kernel
theorem dX12_voice_1 : decode cX12_voice 1 = .ok (.invokestatic 75, 3) := by decide +kernel
theorem dX12_voice_4 : decode cX12_voice 4 = .ok (.ifCond .eq 28, 3) := by decide +kernel
theorem dX12_voice_7 : decode cX12_voice 7 = .ok (.iconst 1, 1) := by decide +kernel
theorem dX12_voice_8 : decode cX12_voice 8 = .ok (.iload_n 2, 1) := by decide +kernel
theorem dX12_voice_9 : decode cX12_voice 9 = .ok (.invokestatic 79, 3) := by decide +kernel
theorem dX12_voice_12 : decode cX12_voice 12 = .ok (.ifCond .eq 20, 3) := by decide +kernel
theorem dX12_voice_15 : decode cX12_voice 15 = .ok (.iconst 2, 1) := by decide +kernel
theorem dX12_voice_16 : decode cX12_voice 16 = .ok (.iload_n 3, 1) := by decide +kernel
theorem dX12_voice_17 : decode cX12_voice 17 = .ok (.invokestatic 79, 3) := by decide +kernel
theorem dX12_voice_20 : decode cX12_voice 20 = .ok (.ifCond .eq 12, 3) := by decide +kernel
theorem dX12_voice_23 : decode cX12_voice 23 = .ok (.iconst 3, 1) := by decide +kernel
theorem dX12_voice_24 : decode cX12_voice 24 = .ok (.iload 4, 2) := by decide +kernel
theorem dX12_voice_26 : decode cX12_voice 26 = .ok (.invokestatic 79, 3) := by decide +kernel
theorem dX12_voice_29 : decode cX12_voice 29 = .ok (.ifCond .ne 5, 3) := by decide +kernel
theorem dX12_voice_32 : decode cX12_voice 32 = .ok (.iconst (-1), 1) := by decide +kernel
theorem dX12_voice_33 : decode cX12_voice 33 = .ok (.ireturn, 1) := by decide +kernel
theorem dX12_voice_34 : decode cX12_voice 34 = .ok (.aload_n 0, 1) := by decide +kernel
theorem dX12_voice_35 : decode cX12_voice 35 = .ok (.getfield 7, 3) := by decide +kernel
theorem dX12_voice_38 : decode cX12_voice 38 = .ok (.iconst 0, 1) := by decide +kernel
theorem dX12_voice_39 : decode cX12_voice 39 = .ok (.iaload, 1) := by decide +kernel
theorem dX12_voice_40 : decode cX12_voice 40 = .ok (.bipush 6, 2) := by decide +kernel
theorem dX12_voice_42 : decode cX12_voice 42 = .ok (.if_icmp .ne 6, 3) := by decide +kernel
theorem dX12_voice_45 : decode cX12_voice 45 = .ok (.bipush (-2), 2) := by decide +kernel
theorem dX12_voice_47 : decode cX12_voice 47 = .ok (.ireturn, 1) := by decide +kernel
theorem dX12_voice_48 : decode cX12_voice 48 = .ok (.aload_n 0, 1) := by decide +kernel
theorem dX12_voice_49 : decode cX12_voice 49 = .ok (.getfield 7, 3) := by decide +kernel
theorem dX12_voice_52 : decode cX12_voice 52 = .ok (.iconst 0, 1) := by decide +kernel
theorem dX12_voice_53 : decode cX12_voice 53 = .ok (.iaload, 1) := by decide +kernel
theorem dX12_voice_54 : decode cX12_voice 54 = .ok (.istore 5, 2) := by decide +kernel
theorem dX12_voice_56 : decode cX12_voice 56 = .ok (.aload_n 0, 1) := by decide +kernel
theorem dX12_voice_57 : decode cX12_voice 57 = .ok (.getfield 7, 3) := by decide +kernel
theorem dX12_voice_60 : decode cX12_voice 60 = .ok (.iload 5, 2) := by decide +kernel
theorem dX12_voice_62 : decode cX12_voice 62 = .ok (.iconst 0, 1) := by decide +kernel
theorem dX12_voice_63 : decode cX12_voice 63 = .ok (.invokestatic 65, 3) := by decide +kernel
theorem dX12_voice_66 : decode cX12_voice 66 = .ok (.iload_n 1, 1) := by decide +kernel
theorem dX12_voice_67 : decode cX12_voice 67 = .ok (.iastore, 1) := by decide +kernel
theorem dX12_voice_68 : decode cX12_voice 68 = .ok (.aload_n 0, 1) := by decide +kernel
theorem dX12_voice_69 : decode cX12_voice 69 = .ok (.getfield 7, 3) := by decide +kernel
theorem dX12_voice_72 : decode cX12_voice 72 = .ok (.iload 5, 2) := by decide +kernel
theorem dX12_voice_74 : decode cX12_voice 74 = .ok (.iconst 1, 1) := by decide +kernel
theorem dX12_voice_75 : decode cX12_voice 75 = .ok (.invokestatic 65, 3) := by decide +kernel
theorem dX12_voice_78 : decode cX12_voice 78 = .ok (.iload_n 2, 1) := by decide +kernel
theorem dX12_voice_79 : decode cX12_voice 79 = .ok (.iastore, 1) := by decide +kernel
theorem dX12_voice_80 : decode cX12_voice 80 = .ok (.aload_n 0, 1) := by decide +kernel
theorem dX12_voice_81 : decode cX12_voice 81 = .ok (.getfield 7, 3) := by decide +kernel
theorem dX12_voice_84 : decode cX12_voice 84 = .ok (.iload 5, 2) := by decide +kernel
theorem dX12_voice_86 : decode cX12_voice 86 = .ok (.iconst 2, 1) := by decide +kernel
theorem dX12_voice_87 : decode cX12_voice 87 = .ok (.invokestatic 65, 3) := by decide +kernel
theorem dX12_voice_90 : decode cX12_voice 90 = .ok (.iload_n 3, 1) := by decide +kernel
theorem dX12_voice_91 : decode cX12_voice 91 = .ok (.iastore, 1) := by decide +kernel
theorem dX12_voice_92 : decode cX12_voice 92 = .ok (.aload_n 0, 1) := by decide +kernel
theorem dX12_voice_93 : decode cX12_voice 93 = .ok (.getfield 7, 3) := by decide +kernel
theorem dX12_voice_96 : decode cX12_voice 96 = .ok (.iload 5, 2) := by decide +kernel
theorem dX12_voice_98 : decode cX12_voice 98 = .ok (.iconst 3, 1) := by decide +kernel
theorem dX12_voice_99 : decode cX12_voice 99 = .ok (.invokestatic 65, 3) := by decide +kernel
theorem dX12_voice_102 : decode cX12_voice 102 = .ok (.iload 4, 2) := by decide +kernel
theorem dX12_voice_104 : decode cX12_voice 104 = .ok (.iastore, 1) := by decide +kernel
theorem dX12_voice_105 : decode cX12_voice 105 = .ok (.aload_n 0, 1) := by decide +kernel
theorem dX12_voice_106 : decode cX12_voice 106 = .ok (.getfield 7, 3) := by decide +kernel
theorem dX12_voice_109 : decode cX12_voice 109 = .ok (.iload 5, 2) := by decide +kernel
theorem dX12_voice_111 : decode cX12_voice 111 = .ok (.iconst 4, 1) := by decide +kernel
theorem dX12_voice_112 : decode cX12_voice 112 = .ok (.invokestatic 65, 3) := by decide +kernel
theorem dX12_voice_115 : decode cX12_voice 115 = .ok (.iconst 0, 1) := by decide +kernel
theorem dX12_voice_116 : decode cX12_voice 116 = .ok (.iastore, 1) := by decide +kernel
theorem dX12_voice_117 : decode cX12_voice 117 = .ok (.aload_n 0, 1) := by decide +kernel
theorem dX12_voice_118 : decode cX12_voice 118 = .ok (.getfield 7, 3) := by decide +kernel
theorem dX12_voice_121 : decode cX12_voice 121 = .ok (.iconst 0, 1) := by decide +kernel
theorem dX12_voice_122 : decode cX12_voice 122 = .ok (.dup2, 1) := by decide +kernel
theorem dX12_voice_123 : decode cX12_voice 123 = .ok (.iaload, 1) := by decide +kernel
theorem dX12_voice_124 : decode cX12_voice 124 = .ok (.iconst 1, 1) := by decide +kernel
theorem dX12_voice_125 : decode cX12_voice 125 = .ok (.iadd, 1) := by decide +kernel
theorem dX12_voice_126 : decode cX12_voice 126 = .ok (.iastore, 1) := by decide +kernel
theorem dX12_voice_127 : decode cX12_voice 127 = .ok (.iload 5, 2) := by decide +kernel
theorem dX12_voice_129 : decode cX12_voice 129 = .ok (.ireturn, 1) := by decide +kernel
theorem dX12_driftOf_0 : decode cX12_driftOf 0 = .ok (.iload_n 1, 1) := by decide +kernel
theorem dX12_driftOf_1 : decode cX12_driftOf 1 = .ok (.iconst 5, 1) := by decide +kernel
theorem dX12_driftOf_2 : decode cX12_driftOf 2 = .ok (.if_icmp .le 7, 3) := by decide +kernel
theorem dX12_driftOf_5 : decode cX12_driftOf 5 = .ok (.iconst 2, 1) := by decide +kernel
theorem dX12_driftOf_6 : decode cX12_driftOf 6 = .ok (.goto 4, 3) := by decide +kernel
theorem dX12_driftOf_9 : decode cX12_driftOf 9 = .ok (.iconst 1, 1) := by decide +kernel
theorem dX12_driftOf_10 : decode cX12_driftOf 10 = .ok (.istore_n 3, 1) := by decide +kernel
theorem dX12_driftOf_11 : decode cX12_driftOf 11 = .ok (.iload_n 0, 1) := by decide +kernel
theorem dX12_driftOf_12 : decode cX12_driftOf 12 = .ok (.tableswitch 54 1 5 #[36, 38, 40, 52, 36], 36) := by decide +kernel
theorem dX12_driftOf_48 : decode cX12_driftOf 48 = .ok (.iconst 2, 1) := by decide +kernel
theorem dX12_driftOf_49 : decode cX12_driftOf 49 = .ok (.ireturn, 1) := by decide +kernel
theorem dX12_driftOf_50 : decode cX12_driftOf 50 = .ok (.iload_n 3, 1) := by decide +kernel
theorem dX12_driftOf_51 : decode cX12_driftOf 51 = .ok (.ireturn, 1) := by decide +kernel
theorem dX12_driftOf_52 : decode cX12_driftOf 52 = .ok (.iload_n 2, 1) := by decide +kernel
theorem dX12_driftOf_53 : decode cX12_driftOf 53 = .ok (.iconst 2, 1) := by decide +kernel
theorem dX12_driftOf_54 : decode cX12_driftOf 54 = .ok (.irem, 1) := by decide +kernel
theorem dX12_driftOf_55 : decode cX12_driftOf 55 = .ok (.ifCond .ne 7, 3) := by decide +kernel
theorem dX12_driftOf_58 : decode cX12_driftOf 58 = .ok (.iload_n 3, 1) := by decide +kernel
theorem dX12_driftOf_59 : decode cX12_driftOf 59 = .ok (.goto 4, 3) := by decide +kernel
theorem dX12_driftOf_62 : decode cX12_driftOf 62 = .ok (.iconst 0, 1) := by decide +kernel
theorem dX12_driftOf_63 : decode cX12_driftOf 63 = .ok (.ireturn, 1) := by decide +kernel
theorem dX12_driftOf_64 : decode cX12_driftOf 64 = .ok (.iconst 0, 1) := by decide +kernel
theorem dX12_driftOf_65 : decode cX12_driftOf 65 = .ok (.ireturn, 1) := by decide +kernel
theorem dX12_driftOf_66 : decode cX12_driftOf 66 = .ok (.iconst 1, 1) := by decide +kernel
theorem dX12_driftOf_67 : decode cX12_driftOf 67 = .ok (.ireturn, 1) := by decide +kernel
theorem dX12_drifts_0 : decode cX12_drifts 0 = .ok (.aload_n 0, 1) := by decide +kernel
theorem dX12_drifts_1 : decode cX12_drifts 1 = .ok (.iload_n 1, 1) := by decide +kernel
theorem dX12_drifts_2 : decode cX12_drifts 2 = .ok (.iconst 0, 1) := by decide +kernel
theorem dX12_drifts_3 : decode cX12_drifts 3 = .ok (.invokevirtual 83, 3) := by decide +kernel
theorem dX12_drifts_6 : decode cX12_drifts 6 = .ok (.aload_n 0, 1) := by decide +kernel
theorem dX12_drifts_7 : decode cX12_drifts 7 = .ok (.iload_n 1, 1) := by decide +kernel
theorem dX12_drifts_8 : decode cX12_drifts 8 = .ok (.iconst 2, 1) := by decide +kernel
theorem dX12_drifts_9 : decode cX12_drifts 9 = .ok (.invokevirtual 83, 3) := by decide +kernel
theorem dX12_drifts_12 : decode cX12_drifts 12 = .ok (.aload_n 0, 1) := by decide +kernel
theorem dX12_drifts_13 : decode cX12_drifts 13 = .ok (.getfield 7, 3) := by decide +kernel
theorem dX12_drifts_16 : decode cX12_drifts 16 = .ok (.iconst 3, 1) := by decide +kernel
theorem dX12_drifts_17 : decode cX12_drifts 17 = .ok (.iaload, 1) := by decide +kernel
theorem dX12_drifts_18 : decode cX12_drifts 18 = .ok (.invokestatic 86, 3) := by decide +kernel
theorem dX12_drifts_21 : decode cX12_drifts 21 = .ok (.ireturn, 1) := by decide +kernel
theorem dX12_price_0 : decode cX12_price 0 = .ok (.aload_n 0, 1) := by decide +kernel
theorem dX12_price_1 : decode cX12_price 1 = .ok (.iload_n 1, 1) := by decide +kernel
theorem dX12_price_2 : decode cX12_price 2 = .ok (.iconst 2, 1) := by decide +kernel
theorem dX12_price_3 : decode cX12_price 3 = .ok (.invokevirtual 83, 3) := by decide +kernel
theorem dX12_price_6 : decode cX12_price 6 = .ok (.istore_n 2, 1) := by decide +kernel
theorem dX12_price_7 : decode cX12_price 7 = .ok (.iload_n 2, 1) := by decide +kernel
theorem dX12_price_8 : decode cX12_price 8 = .ok (.iconst 2, 1) := by decide +kernel
theorem dX12_price_9 : decode cX12_price 9 = .ok (.if_icmp .le 9, 3) := by decide +kernel
theorem dX12_price_12 : decode cX12_price 12 = .ok (.iload_n 2, 1) := by decide +kernel
theorem dX12_price_13 : decode cX12_price 13 = .ok (.iconst 2, 1) := by decide +kernel
theorem dX12_price_14 : decode cX12_price 14 = .ok (.isub, 1) := by decide +kernel
theorem dX12_price_15 : decode cX12_price 15 = .ok (.goto 4, 3) := by decide +kernel
theorem dX12_price_18 : decode cX12_price 18 = .ok (.iconst 0, 1) := by decide +kernel
theorem dX12_price_19 : decode cX12_price 19 = .ok (.istore_n 3, 1) := by decide +kernel
theorem dX12_price_20 : decode cX12_price 20 = .ok (.aload_n 0, 1) := by decide +kernel
theorem dX12_price_21 : decode cX12_price 21 = .ok (.iload_n 1, 1) := by decide +kernel
theorem dX12_price_22 : decode cX12_price 22 = .ok (.iconst 0, 1) := by decide +kernel
theorem dX12_price_23 : decode cX12_price 23 = .ok (.invokevirtual 83, 3) := by decide +kernel
theorem dX12_price_26 : decode cX12_price 26 = .ok (.tableswitch 48 1 5 #[34, 38, 40, 44, 46], 34) := by decide +kernel
theorem dX12_price_60 : decode cX12_price 60 = .ok (.iconst 2, 1) := by decide +kernel
theorem dX12_price_61 : decode cX12_price 61 = .ok (.iload_n 2, 1) := by decide +kernel
theorem dX12_price_62 : decode cX12_price 62 = .ok (.imul, 1) := by decide +kernel
theorem dX12_price_63 : decode cX12_price 63 = .ok (.ireturn, 1) := by decide +kernel
theorem dX12_price_64 : decode cX12_price 64 = .ok (.iload_n 3, 1) := by decide +kernel
theorem dX12_price_65 : decode cX12_price 65 = .ok (.ireturn, 1) := by decide +kernel
theorem dX12_price_66 : decode cX12_price 66 = .ok (.iload_n 3, 1) := by decide +kernel
theorem dX12_price_67 : decode cX12_price 67 = .ok (.iconst 5, 1) := by decide +kernel
theorem dX12_price_68 : decode cX12_price 68 = .ok (.iadd, 1) := by decide +kernel
theorem dX12_price_69 : decode cX12_price 69 = .ok (.ireturn, 1) := by decide +kernel
theorem dX12_price_70 : decode cX12_price 70 = .ok (.iconst 1, 1) := by decide +kernel
theorem dX12_price_71 : decode cX12_price 71 = .ok (.ireturn, 1) := by decide +kernel
theorem dX12_price_72 : decode cX12_price 72 = .ok (.iconst 0, 1) := by decide +kernel
theorem dX12_price_73 : decode cX12_price 73 = .ok (.ireturn, 1) := by decide +kernel
theorem dX12_price_74 : decode cX12_price 74 = .ok (.iload_n 2, 1) := by decide +kernel
theorem dX12_price_75 : decode cX12_price 75 = .ok (.ireturn, 1) := by decide +kernel
theorem dX12_isBursting_0 : decode cX12_isBursting 0 = .ok (.aload_n 0, 1) := by decide +kernel
theorem dX12_isBursting_1 : decode cX12_isBursting 1 = .ok (.iload_n 1, 1) := by decide +kernel
theorem dX12_isBursting_2 : decode cX12_isBursting 2 = .ok (.iconst 0, 1) := by decide +kernel
theorem dX12_isBursting_3 : decode cX12_isBursting 3 = .ok (.invokevirtual 83, 3) := by decide +kernel
theorem dX12_isBursting_6 : decode cX12_isBursting 6 = .ok (.iconst 4, 1) := by decide +kernel
theorem dX12_isBursting_7 : decode cX12_isBursting 7 = .ok (.if_icmp .ne 18, 3) := by decide +kernel
theorem dX12_isBursting_10 : decode cX12_isBursting 10 = .ok (.aload_n 0, 1) := by decide +kernel
theorem dX12_isBursting_11 : decode cX12_isBursting 11 = .ok (.iload_n 1, 1) := by decide +kernel
theorem dX12_isBursting_12 : decode cX12_isBursting 12 = .ok (.iconst 2, 1) := by decide +kernel
theorem dX12_isBursting_13 : decode cX12_isBursting 13 = .ok (.invokevirtual 83, 3) := by decide +kernel
theorem dX12_isBursting_16 : decode cX12_isBursting 16 = .ok (.bipush 8, 2) := by decide +kernel
theorem dX12_isBursting_18 : decode cX12_isBursting 18 = .ok (.if_icmp .lt 7, 3) := by decide +kernel
theorem dX12_isBursting_21 : decode cX12_isBursting 21 = .ok (.iconst 1, 1) := by decide +kernel
theorem dX12_isBursting_22 : decode cX12_isBursting 22 = .ok (.goto 4, 3) := by decide +kernel
theorem dX12_isBursting_25 : decode cX12_isBursting 25 = .ok (.iconst 0, 1) := by decide +kernel
theorem dX12_isBursting_26 : decode cX12_isBursting 26 = .ok (.ireturn, 1) := by decide +kernel
theorem dX12_voiceOf_0 : decode cX12_voiceOf 0 = .ok (.aload_n 0, 1) := by decide +kernel
theorem dX12_voiceOf_1 : decode cX12_voiceOf 1 = .ok (.iload_n 1, 1) := by decide +kernel
theorem dX12_voiceOf_2 : decode cX12_voiceOf 2 = .ok (.invokevirtual 90, 3) := by decide +kernel
theorem dX12_voiceOf_5 : decode cX12_voiceOf 5 = .ok (.ifCond .eq 15, 3) := by decide +kernel
theorem dX12_voiceOf_8 : decode cX12_voiceOf 8 = .ok (.iload_n 2, 1) := by decide +kernel
theorem dX12_voiceOf_9 : decode cX12_voiceOf 9 = .ok (.i2l, 1) := by decide +kernel
theorem dX12_voiceOf_10 : decode cX12_voiceOf 10 = .ok (.lconst 0, 1) := by decide +kernel
theorem dX12_voiceOf_11 : decode cX12_voiceOf 11 = .ok (.ldc2_w 93, 3) := by decide +kernel
theorem dX12_voiceOf_14 : decode cX12_voiceOf 14 = .ok (.invokestatic 61, 3) := by decide +kernel
theorem dX12_voiceOf_17 : decode cX12_voiceOf 17 = .ok (.ifCond .ne 5, 3) := by decide +kernel
theorem dX12_voiceOf_20 : decode cX12_voiceOf 20 = .ok (.iconst (-1), 1) := by decide +kernel
theorem dX12_voiceOf_21 : decode cX12_voiceOf 21 = .ok (.ireturn, 1) := by decide +kernel
theorem dX12_voiceOf_22 : decode cX12_voiceOf 22 = .ok (.iload_n 2, 1) := by decide +kernel
theorem dX12_voiceOf_23 : decode cX12_voiceOf 23 = .ok (.tableswitch 61 5 8 #[29, 35, 41, 55], 29) := by decide +kernel
theorem dX12_voiceOf_52 : decode cX12_voiceOf 52 = .ok (.aload_n 0, 1) := by decide +kernel
theorem dX12_voiceOf_53 : decode cX12_voiceOf 53 = .ok (.iload_n 1, 1) := by decide +kernel
theorem dX12_voiceOf_54 : decode cX12_voiceOf 54 = .ok (.invokevirtual 95, 3) := by decide +kernel
theorem dX12_voiceOf_57 : decode cX12_voiceOf 57 = .ok (.ireturn, 1) := by decide +kernel
theorem dX12_voiceOf_58 : decode cX12_voiceOf 58 = .ok (.aload_n 0, 1) := by decide +kernel
theorem dX12_voiceOf_59 : decode cX12_voiceOf 59 = .ok (.iload_n 1, 1) := by decide +kernel
theorem dX12_voiceOf_60 : decode cX12_voiceOf 60 = .ok (.invokevirtual 99, 3) := by decide +kernel
theorem dX12_voiceOf_63 : decode cX12_voiceOf 63 = .ok (.ireturn, 1) := by decide +kernel
theorem dX12_voiceOf_64 : decode cX12_voiceOf 64 = .ok (.aload_n 0, 1) := by decide +kernel
theorem dX12_voiceOf_65 : decode cX12_voiceOf 65 = .ok (.iload_n 1, 1) := by decide +kernel
theorem dX12_voiceOf_66 : decode cX12_voiceOf 66 = .ok (.invokevirtual 102, 3) := by decide +kernel
theorem dX12_voiceOf_69 : decode cX12_voiceOf 69 = .ok (.ifCond .eq 7, 3) := by decide +kernel
theorem dX12_voiceOf_72 : decode cX12_voiceOf 72 = .ok (.iconst 1, 1) := by decide +kernel
theorem dX12_voiceOf_73 : decode cX12_voiceOf 73 = .ok (.goto 4, 3) := by decide +kernel
theorem dX12_voiceOf_76 : decode cX12_voiceOf 76 = .ok (.iconst 0, 1) := by decide +kernel
theorem dX12_voiceOf_77 : decode cX12_voiceOf 77 = .ok (.ireturn, 1) := by decide +kernel
theorem dX12_voiceOf_78 : decode cX12_voiceOf 78 = .ok (.aload_n 0, 1) := by decide +kernel
theorem dX12_voiceOf_79 : decode cX12_voiceOf 79 = .ok (.iload_n 1, 1) := by decide +kernel
theorem dX12_voiceOf_80 : decode cX12_voiceOf 80 = .ok (.invokevirtual 105, 3) := by decide +kernel
theorem dX12_voiceOf_83 : decode cX12_voiceOf 83 = .ok (.ireturn, 1) := by decide +kernel
theorem dX12_voiceOf_84 : decode cX12_voiceOf 84 = .ok (.aload_n 0, 1) := by decide +kernel
theorem dX12_voiceOf_85 : decode cX12_voiceOf 85 = .ok (.iload_n 1, 1) := by decide +kernel
theorem dX12_voiceOf_86 : decode cX12_voiceOf 86 = .ok (.iload_n 2, 1) := by decide +kernel
theorem dX12_voiceOf_87 : decode cX12_voiceOf 87 = .ok (.invokevirtual 83, 3) := by decide +kernel
theorem dX12_voiceOf_90 : decode cX12_voiceOf 90 = .ok (.ireturn, 1) := by decide +kernel
theorem dX12_change_0 : decode cX12_change 0 = .ok (.aload_n 0, 1) := by decide +kernel
theorem dX12_change_1 : decode cX12_change 1 = .ok (.iload_n 1, 1) := by decide +kernel
theorem dX12_change_2 : decode cX12_change 2 = .ok (.invokevirtual 90, 3) := by decide +kernel
theorem dX12_change_5 : decode cX12_change 5 = .ok (.ifCond .eq 24, 3) := by decide +kernel
theorem dX12_change_8 : decode cX12_change 8 = .ok (.iload_n 2, 1) := by decide +kernel
theorem dX12_change_9 : decode cX12_change 9 = .ok (.iload_n 3, 1) := by decide +kernel
theorem dX12_change_10 : decode cX12_change 10 = .ok (.invokestatic 79, 3) := by decide +kernel
theorem dX12_change_13 : decode cX12_change 13 = .ok (.ifCond .eq 16, 3) := by decide +kernel
theorem dX12_change_16 : decode cX12_change 16 = .ok (.aload_n 0, 1) := by decide +kernel
theorem dX12_change_17 : decode cX12_change 17 = .ok (.iload_n 1, 1) := by decide +kernel
theorem dX12_change_18 : decode cX12_change 18 = .ok (.iload_n 2, 1) := by decide +kernel
theorem dX12_change_19 : decode cX12_change 19 = .ok (.invokestatic 65, 3) := by decide +kernel
theorem dX12_change_22 : decode cX12_change 22 = .ok (.iload_n 3, 1) := by decide +kernel
theorem dX12_change_23 : decode cX12_change 23 = .ok (.invokevirtual 108, 3) := by decide +kernel
theorem dX12_change_26 : decode cX12_change 26 = .ok (.goto 4, 3) := by decide +kernel
theorem dX12_change_29 : decode cX12_change 29 = .ok (.iconst (-1), 1) := by decide +kernel
theorem dX12_change_30 : decode cX12_change 30 = .ok (.ireturn, 1) := by decide +kernel
theorem dX12_remake_0 : decode cX12_remake 0 = .ok (.aload_n 0, 1) := by decide +kernel
theorem dX12_remake_1 : decode cX12_remake 1 = .ok (.iload_n 1, 1) := by decide +kernel
theorem dX12_remake_2 : decode cX12_remake 2 = .ok (.invokevirtual 90, 3) := by decide +kernel
theorem dX12_remake_5 : decode cX12_remake 5 = .ok (.ifCond .eq 23, 3) := by decide +kernel
theorem dX12_remake_8 : decode cX12_remake 8 = .ok (.iload_n 2, 1) := by decide +kernel
theorem dX12_remake_9 : decode cX12_remake 9 = .ok (.invokestatic 75, 3) := by decide +kernel
theorem dX12_remake_12 : decode cX12_remake 12 = .ok (.ifCond .eq 16, 3) := by decide +kernel
theorem dX12_remake_15 : decode cX12_remake 15 = .ok (.aload_n 0, 1) := by decide +kernel
theorem dX12_remake_16 : decode cX12_remake 16 = .ok (.iload_n 1, 1) := by decide +kernel
theorem dX12_remake_17 : decode cX12_remake 17 = .ok (.iconst 0, 1) := by decide +kernel
theorem dX12_remake_18 : decode cX12_remake 18 = .ok (.invokestatic 65, 3) := by decide +kernel
theorem dX12_remake_21 : decode cX12_remake 21 = .ok (.iload_n 2, 1) := by decide +kernel
theorem dX12_remake_22 : decode cX12_remake 22 = .ok (.invokevirtual 108, 3) := by decide +kernel
theorem dX12_remake_25 : decode cX12_remake 25 = .ok (.goto 4, 3) := by decide +kernel
theorem dX12_remake_28 : decode cX12_remake 28 = .ok (.iconst (-1), 1) := by decide +kernel
theorem dX12_remake_29 : decode cX12_remake 29 = .ok (.ireturn, 1) := by decide +kernel
theorem dX12_isTurn_0 : decode cX12_isTurn 0 = .ok (.iload_n 0, 1) := by decide +kernel
theorem dX12_isTurn_1 : decode cX12_isTurn 1 = .ok (.i2l, 1) := by decide +kernel
theorem dX12_isTurn_2 : decode cX12_isTurn 2 = .ok (.lconst 0, 1) := by decide +kernel
theorem dX12_isTurn_3 : decode cX12_isTurn 3 = .ok (.ldc2_w 73, 3) := by decide +kernel
theorem dX12_isTurn_6 : decode cX12_isTurn 6 = .ok (.invokestatic 61, 3) := by decide +kernel
theorem dX12_isTurn_9 : decode cX12_isTurn 9 = .ok (.ireturn, 1) := by decide +kernel
theorem dX12_tide_0 : decode cX12_tide 0 = .ok (.iload_n 1, 1) := by decide +kernel
theorem dX12_tide_1 : decode cX12_tide 1 = .ok (.invokestatic 111, 3) := by decide +kernel
theorem dX12_tide_4 : decode cX12_tide 4 = .ok (.ifCond .eq 27, 3) := by decide +kernel
theorem dX12_tide_7 : decode cX12_tide 7 = .ok (.iload_n 2, 1) := by decide +kernel
theorem dX12_tide_8 : decode cX12_tide 8 = .ok (.i2l, 1) := by decide +kernel
theorem dX12_tide_9 : decode cX12_tide 9 = .ok (.lconst 0, 1) := by decide +kernel
theorem dX12_tide_10 : decode cX12_tide 10 = .ok (.ldc2_w 114, 3) := by decide +kernel
theorem dX12_tide_13 : decode cX12_tide 13 = .ok (.invokestatic 61, 3) := by decide +kernel
theorem dX12_tide_16 : decode cX12_tide 16 = .ok (.ifCond .eq 15, 3) := by decide +kernel
theorem dX12_tide_19 : decode cX12_tide 19 = .ok (.aload_n 0, 1) := by decide +kernel
theorem dX12_tide_20 : decode cX12_tide 20 = .ok (.bipush 8, 2) := by decide +kernel
theorem dX12_tide_22 : decode cX12_tide 22 = .ok (.iload_n 1, 1) := by decide +kernel
theorem dX12_tide_23 : decode cX12_tide 23 = .ok (.iadd, 1) := by decide +kernel
theorem dX12_tide_24 : decode cX12_tide 24 = .ok (.iload_n 2, 1) := by decide +kernel
theorem dX12_tide_25 : decode cX12_tide 25 = .ok (.invokevirtual 108, 3) := by decide +kernel
theorem dX12_tide_28 : decode cX12_tide 28 = .ok (.goto 4, 3) := by decide +kernel
theorem dX12_tide_31 : decode cX12_tide 31 = .ok (.iconst (-1), 1) := by decide +kernel
theorem dX12_tide_32 : decode cX12_tide 32 = .ok (.ireturn, 1) := by decide +kernel
theorem dX12_tideOf_0 : decode cX12_tideOf 0 = .ok (.iload_n 1, 1) := by decide +kernel
theorem dX12_tideOf_1 : decode cX12_tideOf 1 = .ok (.invokestatic 111, 3) := by decide +kernel
theorem dX12_tideOf_4 : decode cX12_tideOf 4 = .ok (.ifCond .eq 15, 3) := by decide +kernel
theorem dX12_tideOf_7 : decode cX12_tideOf 7 = .ok (.aload_n 0, 1) := by decide +kernel
theorem dX12_tideOf_8 : decode cX12_tideOf 8 = .ok (.getfield 7, 3) := by decide +kernel
theorem dX12_tideOf_11 : decode cX12_tideOf 11 = .ok (.bipush 8, 2) := by decide +kernel
theorem dX12_tideOf_13 : decode cX12_tideOf 13 = .ok (.iload_n 1, 1) := by decide +kernel
theorem dX12_tideOf_14 : decode cX12_tideOf 14 = .ok (.iadd, 1) := by decide +kernel
theorem dX12_tideOf_15 : decode cX12_tideOf 15 = .ok (.iaload, 1) := by decide +kernel
theorem dX12_tideOf_16 : decode cX12_tideOf 16 = .ok (.goto 4, 3) := by decide +kernel
theorem dX12_tideOf_19 : decode cX12_tideOf 19 = .ok (.iconst (-1), 1) := by decide +kernel
theorem dX12_tideOf_20 : decode cX12_tideOf 20 = .ok (.ireturn, 1) := by decide +kernel
theorem dX12_set_0 : decode cX12_set 0 = .ok (.iload_n 1, 1) := by decide +kernel
theorem dX12_set_1 : decode cX12_set 1 = .ok (.iconst 1, 1) := by decide +kernel
theorem dX12_set_2 : decode cX12_set 2 = .ok (.if_icmp .ne 26, 3) := by decide +kernel
theorem dX12_set_5 : decode cX12_set 5 = .ok (.iload_n 2, 1) := by decide +kernel
theorem dX12_set_6 : decode cX12_set 6 = .ok (.i2l, 1) := by decide +kernel
theorem dX12_set_7 : decode cX12_set 7 = .ok (.lconst 0, 1) := by decide +kernel
theorem dX12_set_8 : decode cX12_set 8 = .ok (.ldc2_w 71, 3) := by decide +kernel
theorem dX12_set_11 : decode cX12_set 11 = .ok (.invokestatic 61, 3) := by decide +kernel
theorem dX12_set_14 : decode cX12_set 14 = .ok (.ifCond .eq 12, 3) := by decide +kernel
theorem dX12_set_17 : decode cX12_set 17 = .ok (.aload_n 0, 1) := by decide +kernel
theorem dX12_set_18 : decode cX12_set 18 = .ok (.iconst 5, 1) := by decide +kernel
theorem dX12_set_19 : decode cX12_set 19 = .ok (.iload_n 2, 1) := by decide +kernel
theorem dX12_set_20 : decode cX12_set 20 = .ok (.invokevirtual 108, 3) := by decide +kernel
theorem dX12_set_23 : decode cX12_set 23 = .ok (.goto 4, 3) := by decide +kernel
theorem dX12_set_26 : decode cX12_set 26 = .ok (.iconst (-1), 1) := by decide +kernel
theorem dX12_set_27 : decode cX12_set 27 = .ok (.ireturn, 1) := by decide +kernel
theorem dX12_set_28 : decode cX12_set 28 = .ok (.iload_n 1, 1) := by decide +kernel
theorem dX12_set_29 : decode cX12_set 29 = .ok (.ifCond .ne 15, 3) := by decide +kernel
theorem dX12_set_32 : decode cX12_set 32 = .ok (.iload_n 2, 1) := by decide +kernel
theorem dX12_set_33 : decode cX12_set 33 = .ok (.i2l, 1) := by decide +kernel
theorem dX12_set_34 : decode cX12_set 34 = .ok (.lconst 1, 1) := by decide +kernel
theorem dX12_set_35 : decode cX12_set 35 = .ok (.ldc2_w 116, 3) := by decide +kernel
theorem dX12_set_38 : decode cX12_set 38 = .ok (.invokestatic 61, 3) := by decide +kernel
theorem dX12_set_41 : decode cX12_set 41 = .ok (.ifCond .ne 7, 3) := by decide +kernel
theorem dX12_set_44 : decode cX12_set 44 = .ok (.iconst (-1), 1) := by decide +kernel
theorem dX12_set_45 : decode cX12_set 45 = .ok (.goto 24, 3) := by decide +kernel
theorem dX12_set_48 : decode cX12_set 48 = .ok (.iload_n 2, 1) := by decide +kernel
theorem dX12_set_49 : decode cX12_set 49 = .ok (.aload_n 0, 1) := by decide +kernel
theorem dX12_set_50 : decode cX12_set 50 = .ok (.getfield 7, 3) := by decide +kernel
theorem dX12_set_53 : decode cX12_set 53 = .ok (.iconst 3, 1) := by decide +kernel
theorem dX12_set_54 : decode cX12_set 54 = .ok (.iaload, 1) := by decide +kernel
theorem dX12_set_55 : decode cX12_set 55 = .ok (.if_icmp .ge 8, 3) := by decide +kernel
theorem dX12_set_58 : decode cX12_set 58 = .ok (.bipush (-4), 2) := by decide +kernel
theorem dX12_set_60 : decode cX12_set 60 = .ok (.goto 9, 3) := by decide +kernel
theorem dX12_set_63 : decode cX12_set 63 = .ok (.aload_n 0, 1) := by decide +kernel
theorem dX12_set_64 : decode cX12_set 64 = .ok (.iconst 2, 1) := by decide +kernel
theorem dX12_set_65 : decode cX12_set 65 = .ok (.iload_n 2, 1) := by decide +kernel
theorem dX12_set_66 : decode cX12_set 66 = .ok (.invokevirtual 108, 3) := by decide +kernel
theorem dX12_set_69 : decode cX12_set 69 = .ok (.ireturn, 1) := by decide +kernel

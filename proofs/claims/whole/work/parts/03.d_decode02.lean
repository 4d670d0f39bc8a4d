theorem dX12_anew_0 : decode cX12_anew 0 = .ok (.aload_n 0, 1) := by decide +kernel
theorem dX12_anew_1 : decode cX12_anew 1 = .ok (.getfield 7, 3) := by decide +kernel
theorem dX12_anew_4 : decode cX12_anew 4 = .ok (.iconst 4, 1) := by decide +kernel
theorem dX12_anew_5 : decode cX12_anew 5 = .ok (.iconst 0, 1) := by decide +kernel
theorem dX12_anew_6 : decode cX12_anew 6 = .ok (.iastore, 1) := by decide +kernel
theorem dX12_anew_7 : decode cX12_anew 7 = .ok (.iconst 0, 1) := by decide +kernel
theorem dX12_anew_8 : decode cX12_anew 8 = .ok (.istore_n 1, 1) := by decide +kernel
theorem dX12_anew_9 : decode cX12_anew 9 = .ok (.iload_n 1, 1) := by decide +kernel
theorem dX12_anew_10 : decode cX12_anew 10 = .ok (.aload_n 0, 1) := by decide +kernel
theorem dX12_anew_11 : decode cX12_anew 11 = .ok (.getfield 7, 3) := by decide +kernel
theorem dX12_anew_14 : decode cX12_anew 14 = .ok (.iconst 0, 1) := by decide +kernel
theorem dX12_anew_15 : decode cX12_anew 15 = .ok (.iaload, 1) := by decide +kernel
theorem dX12_anew_16 : decode cX12_anew 16 = .ok (.if_icmp .ge 20, 3) := by decide +kernel
theorem dX12_anew_19 : decode cX12_anew 19 = .ok (.aload_n 0, 1) := by decide +kernel
theorem dX12_anew_20 : decode cX12_anew 20 = .ok (.getfield 7, 3) := by decide +kernel
theorem dX12_anew_23 : decode cX12_anew 23 = .ok (.iload_n 1, 1) := by decide +kernel
theorem dX12_anew_24 : decode cX12_anew 24 = .ok (.iconst 4, 1) := by decide +kernel
theorem dX12_anew_25 : decode cX12_anew 25 = .ok (.invokestatic 65, 3) := by decide +kernel
theorem dX12_anew_28 : decode cX12_anew 28 = .ok (.iconst 0, 1) := by decide +kernel
theorem dX12_anew_29 : decode cX12_anew 29 = .ok (.iastore, 1) := by decide +kernel
theorem dX12_anew_30 : decode cX12_anew 30 = .ok (.iinc 1 1, 3) := by decide +kernel
theorem dX12_anew_33 : decode cX12_anew 33 = .ok (.goto (-24), 3) := by decide +kernel
theorem dX12_anew_36 : decode cX12_anew 36 = .ok (.aload_n 0, 1) := by decide +kernel
theorem dX12_anew_37 : decode cX12_anew 37 = .ok (.iconst 3, 1) := by decide +kernel
theorem dX12_anew_38 : decode cX12_anew 38 = .ok (.iconst 0, 1) := by decide +kernel
theorem dX12_anew_39 : decode cX12_anew 39 = .ok (.invokevirtual 108, 3) := by decide +kernel
theorem dX12_anew_42 : decode cX12_anew 42 = .ok (.ireturn, 1) := by decide +kernel
theorem dX12_isOver_0 : decode cX12_isOver 0 = .ok (.aload_n 0, 1) := by decide +kernel
theorem dX12_isOver_1 : decode cX12_isOver 1 = .ok (.getfield 7, 3) := by decide +kernel
theorem dX12_isOver_4 : decode cX12_isOver 4 = .ok (.iconst 3, 1) := by decide +kernel
theorem dX12_isOver_5 : decode cX12_isOver 5 = .ok (.iaload, 1) := by decide +kernel
theorem dX12_isOver_6 : decode cX12_isOver 6 = .ok (.aload_n 0, 1) := by decide +kernel
theorem dX12_isOver_7 : decode cX12_isOver 7 = .ok (.getfield 7, 3) := by decide +kernel
theorem dX12_isOver_10 : decode cX12_isOver 10 = .ok (.iconst 2, 1) := by decide +kernel
theorem dX12_isOver_11 : decode cX12_isOver 11 = .ok (.iaload, 1) := by decide +kernel
theorem dX12_isOver_12 : decode cX12_isOver 12 = .ok (.if_icmp .lt 7, 3) := by decide +kernel
theorem dX12_isOver_15 : decode cX12_isOver 15 = .ok (.iconst 1, 1) := by decide +kernel
theorem dX12_isOver_16 : decode cX12_isOver 16 = .ok (.goto 4, 3) := by decide +kernel
theorem dX12_isOver_19 : decode cX12_isOver 19 = .ok (.iconst 0, 1) := by decide +kernel
theorem dX12_isOver_20 : decode cX12_isOver 20 = .ok (.ireturn, 1) := by decide +kernel
theorem dX12_caught_0 : decode cX12_caught 0 = .ok (.iconst 0, 1) := by decide +kernel
theorem dX12_caught_1 : decode cX12_caught 1 = .ok (.istore_n 1, 1) := by decide +kernel
theorem dX12_caught_2 : decode cX12_caught 2 = .ok (.iconst 0, 1) := by decide +kernel
theorem dX12_caught_3 : decode cX12_caught 3 = .ok (.istore_n 2, 1) := by decide +kernel
theorem dX12_caught_4 : decode cX12_caught 4 = .ok (.iload_n 2, 1) := by decide +kernel
theorem dX12_caught_5 : decode cX12_caught 5 = .ok (.aload_n 0, 1) := by decide +kernel
theorem dX12_caught_6 : decode cX12_caught 6 = .ok (.getfield 7, 3) := by decide +kernel
theorem dX12_caught_9 : decode cX12_caught 9 = .ok (.iconst 0, 1) := by decide +kernel
theorem dX12_caught_10 : decode cX12_caught 10 = .ok (.iaload, 1) := by decide +kernel
theorem dX12_caught_11 : decode cX12_caught 11 = .ok (.if_icmp .ge 20, 3) := by decide +kernel
theorem dX12_caught_14 : decode cX12_caught 14 = .ok (.iload_n 1, 1) := by decide +kernel
theorem dX12_caught_15 : decode cX12_caught 15 = .ok (.aload_n 0, 1) := by decide +kernel
theorem dX12_caught_16 : decode cX12_caught 16 = .ok (.iload_n 2, 1) := by decide +kernel
theorem dX12_caught_17 : decode cX12_caught 17 = .ok (.iconst 4, 1) := by decide +kernel
theorem dX12_caught_18 : decode cX12_caught 18 = .ok (.invokevirtual 83, 3) := by decide +kernel
theorem dX12_caught_21 : decode cX12_caught 21 = .ok (.iload_n 2, 1) := by decide +kernel
theorem dX12_caught_22 : decode cX12_caught 22 = .ok (.ishl, 1) := by decide +kernel
theorem dX12_caught_23 : decode cX12_caught 23 = .ok (.ior, 1) := by decide +kernel
theorem dX12_caught_24 : decode cX12_caught 24 = .ok (.istore_n 1, 1) := by decide +kernel
theorem dX12_caught_25 : decode cX12_caught 25 = .ok (.iinc 2 1, 3) := by decide +kernel
theorem dX12_caught_28 : decode cX12_caught 28 = .ok (.goto (-24), 3) := by decide +kernel
theorem dX12_caught_31 : decode cX12_caught 31 = .ok (.iload_n 1, 1) := by decide +kernel
theorem dX12_caught_32 : decode cX12_caught 32 = .ok (.ireturn, 1) := by decide +kernel
theorem dX12_state_0 : decode cX12_state 0 = .ok (.iload_n 1, 1) := by decide +kernel
theorem dX12_state_1 : decode cX12_state 1 = .ok (.tableswitch 85 0 5 #[39, 46, 53, 60, 73, 78], 39) := by decide +kernel
theorem dX12_state_40 : decode cX12_state 40 = .ok (.aload_n 0, 1) := by decide +kernel
theorem dX12_state_41 : decode cX12_state 41 = .ok (.getfield 7, 3) := by decide +kernel
theorem dX12_state_44 : decode cX12_state 44 = .ok (.iconst 3, 1) := by decide +kernel
theorem dX12_state_45 : decode cX12_state 45 = .ok (.iaload, 1) := by decide +kernel
theorem dX12_state_46 : decode cX12_state 46 = .ok (.ireturn, 1) := by decide +kernel
theorem dX12_state_47 : decode cX12_state 47 = .ok (.aload_n 0, 1) := by decide +kernel
theorem dX12_state_48 : decode cX12_state 48 = .ok (.getfield 7, 3) := by decide +kernel
theorem dX12_state_51 : decode cX12_state 51 = .ok (.iconst 2, 1) := by decide +kernel
theorem dX12_state_52 : decode cX12_state 52 = .ok (.iaload, 1) := by decide +kernel
theorem dX12_state_53 : decode cX12_state 53 = .ok (.ireturn, 1) := by decide +kernel
theorem dX12_state_54 : decode cX12_state 54 = .ok (.aload_n 0, 1) := by decide +kernel
theorem dX12_state_55 : decode cX12_state 55 = .ok (.getfield 7, 3) := by decide +kernel
theorem dX12_state_58 : decode cX12_state 58 = .ok (.iconst 4, 1) := by decide +kernel
theorem dX12_state_59 : decode cX12_state 59 = .ok (.iaload, 1) := by decide +kernel
theorem dX12_state_60 : decode cX12_state 60 = .ok (.ireturn, 1) := by decide +kernel
theorem dX12_state_61 : decode cX12_state 61 = .ok (.aload_n 0, 1) := by decide +kernel
theorem dX12_state_62 : decode cX12_state 62 = .ok (.invokevirtual 118, 3) := by decide +kernel
theorem dX12_state_65 : decode cX12_state 65 = .ok (.ifCond .eq 7, 3) := by decide +kernel
theorem dX12_state_68 : decode cX12_state 68 = .ok (.iconst 1, 1) := by decide +kernel
theorem dX12_state_69 : decode cX12_state 69 = .ok (.goto 4, 3) := by decide +kernel
theorem dX12_state_72 : decode cX12_state 72 = .ok (.iconst 0, 1) := by decide +kernel
theorem dX12_state_73 : decode cX12_state 73 = .ok (.ireturn, 1) := by decide +kernel
theorem dX12_state_74 : decode cX12_state 74 = .ok (.aload_n 0, 1) := by decide +kernel
theorem dX12_state_75 : decode cX12_state 75 = .ok (.invokevirtual 122, 3) := by decide +kernel
theorem dX12_state_78 : decode cX12_state 78 = .ok (.ireturn, 1) := by decide +kernel
theorem dX12_state_79 : decode cX12_state 79 = .ok (.aload_n 0, 1) := by decide +kernel
theorem dX12_state_80 : decode cX12_state 80 = .ok (.getfield 7, 3) := by decide +kernel
theorem dX12_state_83 : decode cX12_state 83 = .ok (.iconst 5, 1) := by decide +kernel
theorem dX12_state_84 : decode cX12_state 84 = .ok (.iaload, 1) := by decide +kernel
theorem dX12_state_85 : decode cX12_state 85 = .ok (.ireturn, 1) := by decide +kernel
theorem dX12_state_86 : decode cX12_state 86 = .ok (.iconst (-1), 1) := by decide +kernel
theorem dX12_state_87 : decode cX12_state 87 = .ok (.ireturn, 1) := by decide +kernel
theorem dX12_isUnder_0 : decode cX12_isUnder 0 = .ok (.iload_n 1, 1) := by decide +kernel
theorem dX12_isUnder_1 : decode cX12_isUnder 1 = .ok (.ifCond .eq 28, 3) := by decide +kernel
theorem dX12_isUnder_4 : decode cX12_isUnder 4 = .ok (.iload_n 0, 1) := by decide +kernel
theorem dX12_isUnder_5 : decode cX12_isUnder 5 = .ok (.iload_n 1, 1) := by decide +kernel
theorem dX12_isUnder_6 : decode cX12_isUnder 6 = .ok (.if_icmp .eq 23, 3) := by decide +kernel
theorem dX12_isUnder_9 : decode cX12_isUnder 9 = .ok (.iload_n 0, 1) := by decide +kernel
theorem dX12_isUnder_10 : decode cX12_isUnder 10 = .ok (.iconst 3, 1) := by decide +kernel
theorem dX12_isUnder_11 : decode cX12_isUnder 11 = .ok (.if_icmp .ne 8, 3) := by decide +kernel
theorem dX12_isUnder_14 : decode cX12_isUnder 14 = .ok (.iload_n 1, 1) := by decide +kernel
theorem dX12_isUnder_15 : decode cX12_isUnder 15 = .ok (.iconst 2, 1) := by decide +kernel
theorem dX12_isUnder_16 : decode cX12_isUnder 16 = .ok (.if_icmp .eq 13, 3) := by decide +kernel
theorem dX12_isUnder_19 : decode cX12_isUnder 19 = .ok (.iload_n 0, 1) := by decide +kernel
theorem dX12_isUnder_20 : decode cX12_isUnder 20 = .ok (.iconst 5, 1) := by decide +kernel
theorem dX12_isUnder_21 : decode cX12_isUnder 21 = .ok (.if_icmp .ne 12, 3) := by decide +kernel
theorem dX12_isUnder_24 : decode cX12_isUnder 24 = .ok (.iload_n 1, 1) := by decide +kernel
theorem dX12_isUnder_25 : decode cX12_isUnder 25 = .ok (.iconst 4, 1) := by decide +kernel
theorem dX12_isUnder_26 : decode cX12_isUnder 26 = .ok (.if_icmp .ne 7, 3) := by decide +kernel
theorem dX12_isUnder_29 : decode cX12_isUnder 29 = .ok (.iconst 1, 1) := by decide +kernel
theorem dX12_isUnder_30 : decode cX12_isUnder 30 = .ok (.goto 4, 3) := by decide +kernel
theorem dX12_isUnder_33 : decode cX12_isUnder 33 = .ok (.iconst 0, 1) := by decide +kernel
theorem dX12_isUnder_34 : decode cX12_isUnder 34 = .ok (.ireturn, 1) := by decide +kernel
theorem dX12_fact_0 : decode cX12_fact 0 = .ok (.iload_n 1, 1) := by decide +kernel
theorem dX12_fact_1 : decode cX12_fact 1 = .ok (.tableswitch 65 (-5) (-1) #[63, 56, 49, 42, 35], 35) := by decide +kernel
theorem dX12_fact_36 : decode cX12_fact 36 = .ok (.aload_n 0, 1) := by decide +kernel
theorem dX12_fact_37 : decode cX12_fact 37 = .ok (.getfield 7, 3) := by decide +kernel
theorem dX12_fact_40 : decode cX12_fact 40 = .ok (.iconst 3, 1) := by decide +kernel
theorem dX12_fact_41 : decode cX12_fact 41 = .ok (.iaload, 1) := by decide +kernel
theorem dX12_fact_42 : decode cX12_fact 42 = .ok (.ireturn, 1) := by decide +kernel
theorem dX12_fact_43 : decode cX12_fact 43 = .ok (.aload_n 0, 1) := by decide +kernel
theorem dX12_fact_44 : decode cX12_fact 44 = .ok (.iload_n 2, 1) := by decide +kernel
theorem dX12_fact_45 : decode cX12_fact 45 = .ok (.iconst 1, 1) := by decide +kernel
theorem dX12_fact_46 : decode cX12_fact 46 = .ok (.invokevirtual 83, 3) := by decide +kernel
theorem dX12_fact_49 : decode cX12_fact 49 = .ok (.ireturn, 1) := by decide +kernel
theorem dX12_fact_50 : decode cX12_fact 50 = .ok (.aload_n 0, 1) := by decide +kernel
theorem dX12_fact_51 : decode cX12_fact 51 = .ok (.iload_n 2, 1) := by decide +kernel
theorem dX12_fact_52 : decode cX12_fact 52 = .ok (.iconst 2, 1) := by decide +kernel
theorem dX12_fact_53 : decode cX12_fact 53 = .ok (.invokevirtual 83, 3) := by decide +kernel
theorem dX12_fact_56 : decode cX12_fact 56 = .ok (.ireturn, 1) := by decide +kernel
theorem dX12_fact_57 : decode cX12_fact 57 = .ok (.aload_n 0, 1) := by decide +kernel
theorem dX12_fact_58 : decode cX12_fact 58 = .ok (.iload_n 2, 1) := by decide +kernel
theorem dX12_fact_59 : decode cX12_fact 59 = .ok (.iconst 3, 1) := by decide +kernel
theorem dX12_fact_60 : decode cX12_fact 60 = .ok (.invokevirtual 83, 3) := by decide +kernel
theorem dX12_fact_63 : decode cX12_fact 63 = .ok (.ireturn, 1) := by decide +kernel
theorem dX12_fact_64 : decode cX12_fact 64 = .ok (.iload_n 2, 1) := by decide +kernel
theorem dX12_fact_65 : decode cX12_fact 65 = .ok (.ireturn, 1) := by decide +kernel
theorem dX12_fact_66 : decode cX12_fact 66 = .ok (.iload_n 1, 1) := by decide +kernel
theorem dX12_fact_67 : decode cX12_fact 67 = .ok (.ireturn, 1) := by decide +kernel
theorem dX12_isHolding_0 : decode cX12_isHolding 0 = .ok (.iload_n 0, 1) := by decide +kernel
theorem dX12_isHolding_1 : decode cX12_isHolding 1 = .ok (.lookupswitch 92 #[(-21, 76), (-13, 65), (-12, 54), (-11, 43)], 43) := by decide +kernel
theorem dX12_isHolding_44 : decode cX12_isHolding 44 = .ok (.iload_n 1, 1) := by decide +kernel
theorem dX12_isHolding_45 : decode cX12_isHolding 45 = .ok (.iload_n 2, 1) := by decide +kernel
theorem dX12_isHolding_46 : decode cX12_isHolding 46 = .ok (.if_icmp .ge 7, 3) := by decide +kernel
theorem dX12_isHolding_49 : decode cX12_isHolding 49 = .ok (.iconst 1, 1) := by decide +kernel
theorem dX12_isHolding_50 : decode cX12_isHolding 50 = .ok (.goto 4, 3) := by decide +kernel
theorem dX12_isHolding_53 : decode cX12_isHolding 53 = .ok (.iconst 0, 1) := by decide +kernel
theorem dX12_isHolding_54 : decode cX12_isHolding 54 = .ok (.ireturn, 1) := by decide +kernel
theorem dX12_isHolding_55 : decode cX12_isHolding 55 = .ok (.iload_n 1, 1) := by decide +kernel
theorem dX12_isHolding_56 : decode cX12_isHolding 56 = .ok (.iload_n 2, 1) := by decide +kernel
theorem dX12_isHolding_57 : decode cX12_isHolding 57 = .ok (.if_icmp .ne 7, 3) := by decide +kernel
theorem dX12_isHolding_60 : decode cX12_isHolding 60 = .ok (.iconst 1, 1) := by decide +kernel
theorem dX12_isHolding_61 : decode cX12_isHolding 61 = .ok (.goto 4, 3) := by decide +kernel
theorem dX12_isHolding_64 : decode cX12_isHolding 64 = .ok (.iconst 0, 1) := by decide +kernel
theorem dX12_isHolding_65 : decode cX12_isHolding 65 = .ok (.ireturn, 1) := by decide +kernel
theorem dX12_isHolding_66 : decode cX12_isHolding 66 = .ok (.iload_n 1, 1) := by decide +kernel
theorem dX12_isHolding_67 : decode cX12_isHolding 67 = .ok (.iload_n 2, 1) := by decide +kernel
theorem dX12_isHolding_68 : decode cX12_isHolding 68 = .ok (.if_icmp .le 7, 3) := by decide +kernel
theorem dX12_isHolding_71 : decode cX12_isHolding 71 = .ok (.iconst 1, 1) := by decide +kernel
theorem dX12_isHolding_72 : decode cX12_isHolding 72 = .ok (.goto 4, 3) := by decide +kernel
theorem dX12_isHolding_75 : decode cX12_isHolding 75 = .ok (.iconst 0, 1) := by decide +kernel
theorem dX12_isHolding_76 : decode cX12_isHolding 76 = .ok (.ireturn, 1) := by decide +kernel
theorem dX12_isHolding_77 : decode cX12_isHolding 77 = .ok (.iload_n 1, 1) := by decide +kernel
theorem dX12_isHolding_78 : decode cX12_isHolding 78 = .ok (.iconst 1, 1) := by decide +kernel
theorem dX12_isHolding_79 : decode cX12_isHolding 79 = .ok (.if_icmp .ne 12, 3) := by decide +kernel
theorem dX12_isHolding_82 : decode cX12_isHolding 82 = .ok (.iload_n 2, 1) := by decide +kernel
theorem dX12_isHolding_83 : decode cX12_isHolding 83 = .ok (.iconst 1, 1) := by decide +kernel
theorem dX12_isHolding_84 : decode cX12_isHolding 84 = .ok (.if_icmp .ne 7, 3) := by decide +kernel
theorem dX12_isHolding_87 : decode cX12_isHolding 87 = .ok (.iconst 1, 1) := by decide +kernel
theorem dX12_isHolding_88 : decode cX12_isHolding 88 = .ok (.goto 4, 3) := by decide +kernel
theorem dX12_isHolding_91 : decode cX12_isHolding 91 = .ok (.iconst 0, 1) := by decide +kernel
theorem dX12_isHolding_92 : decode cX12_isHolding 92 = .ok (.ireturn, 1) := by decide +kernel
theorem dX12_isHolding_93 : decode cX12_isHolding 93 = .ok (.iload_n 1, 1) := by decide +kernel
theorem dX12_isHolding_94 : decode cX12_isHolding 94 = .ok (.iconst 1, 1) := by decide +kernel
theorem dX12_isHolding_95 : decode cX12_isHolding 95 = .ok (.if_icmp .eq 8, 3) := by decide +kernel
theorem dX12_isHolding_98 : decode cX12_isHolding 98 = .ok (.iload_n 2, 1) := by decide +kernel
theorem dX12_isHolding_99 : decode cX12_isHolding 99 = .ok (.iconst 1, 1) := by decide +kernel
theorem dX12_isHolding_100 : decode cX12_isHolding 100 = .ok (.if_icmp .ne 7, 3) := by decide +kernel
theorem dX12_isHolding_103 : decode cX12_isHolding 103 = .ok (.iconst 1, 1) := by decide +kernel
theorem dX12_isHolding_104 : decode cX12_isHolding 104 = .ok (.goto 4, 3) := by decide +kernel
theorem dX12_isHolding_107 : decode cX12_isHolding 107 = .ok (.iconst 0, 1) := by decide +kernel
theorem dX12_isHolding_108 : decode cX12_isHolding 108 = .ok (.ireturn, 1) := by decide +kernel
theorem dX12_isSo_0 : decode cX12_isSo 0 = .ok (.iconst 0, 1) := by decide +kernel
theorem dX12_isSo_1 : decode cX12_isSo 1 = .ok (.istore 4, 2) := by decide +kernel
theorem dX12_isSo_3 : decode cX12_isSo 3 = .ok (.iload_n 1, 1) := by decide +kernel
theorem dX12_isSo_4 : decode cX12_isSo 4 = .ok (.istore 5, 2) := by decide +kernel
theorem dX12_isSo_6 : decode cX12_isSo 6 = .ok (.iload 5, 2) := by decide +kernel
theorem dX12_isSo_8 : decode cX12_isSo 8 = .ok (.iload_n 2, 1) := by decide +kernel
theorem dX12_isSo_9 : decode cX12_isSo 9 = .ok (.if_icmp .ge 119, 3) := by decide +kernel
theorem dX12_isSo_12 : decode cX12_isSo 12 = .ok (.aload_n 0, 1) := by decide +kernel
theorem dX12_isSo_13 : decode cX12_isSo 13 = .ok (.getfield 7, 3) := by decide +kernel
theorem dX12_isSo_16 : decode cX12_isSo 16 = .ok (.bipush 96, 2) := by decide +kernel
theorem dX12_isSo_18 : decode cX12_isSo 18 = .ok (.iload 5, 2) := by decide +kernel
theorem dX12_isSo_20 : decode cX12_isSo 20 = .ok (.iadd, 1) := by decide +kernel
theorem dX12_isSo_21 : decode cX12_isSo 21 = .ok (.iaload, 1) := by decide +kernel
theorem dX12_isSo_22 : decode cX12_isSo 22 = .ok (.istore 6, 2) := by decide +kernel
theorem dX12_isSo_24 : decode cX12_isSo 24 = .ok (.iload 6, 2) := by decide +kernel
theorem dX12_isSo_26 : decode cX12_isSo 26 = .ok (.bipush (-10), 2) := by decide +kernel
theorem dX12_isSo_28 : decode cX12_isSo 28 = .ok (.if_icmp .le 23, 3) := by decide +kernel
theorem dX12_isSo_31 : decode cX12_isSo 31 = .ok (.aload_n 0, 1) := by decide +kernel
theorem dX12_isSo_32 : decode cX12_isSo 32 = .ok (.getfield 19, 3) := by decide +kernel
theorem dX12_isSo_35 : decode cX12_isSo 35 = .ok (.iload 4, 2) := by decide +kernel
theorem dX12_isSo_37 : decode cX12_isSo 37 = .ok (.aload_n 0, 1) := by decide +kernel
theorem dX12_isSo_38 : decode cX12_isSo 38 = .ok (.iload 6, 2) := by decide +kernel
theorem dX12_isSo_40 : decode cX12_isSo 40 = .ok (.iload_n 3, 1) := by decide +kernel
theorem dX12_isSo_41 : decode cX12_isSo 41 = .ok (.invokevirtual 126, 3) := by decide +kernel
theorem dX12_isSo_44 : decode cX12_isSo 44 = .ok (.iastore, 1) := by decide +kernel
theorem dX12_isSo_45 : decode cX12_isSo 45 = .ok (.iinc 4 1, 3) := by decide +kernel
theorem dX12_isSo_48 : decode cX12_isSo 48 = .ok (.goto 74, 3) := by decide +kernel
theorem dX12_isSo_51 : decode cX12_isSo 51 = .ok (.iload 6, 2) := by decide +kernel
theorem dX12_isSo_53 : decode cX12_isSo 53 = .ok (.bipush (-20), 2) := by decide +kernel
theorem dX12_isSo_55 : decode cX12_isSo 55 = .ok (.if_icmp .ne 26, 3) := by decide +kernel
theorem dX12_isSo_58 : decode cX12_isSo 58 = .ok (.aload_n 0, 1) := by decide +kernel
theorem dX12_isSo_59 : decode cX12_isSo 59 = .ok (.getfield 19, 3) := by decide +kernel
theorem dX12_isSo_62 : decode cX12_isSo 62 = .ok (.iload 4, 2) := by decide +kernel
theorem dX12_isSo_64 : decode cX12_isSo 64 = .ok (.iconst 1, 1) := by decide +kernel
theorem dX12_isSo_65 : decode cX12_isSo 65 = .ok (.isub, 1) := by decide +kernel
theorem dX12_isSo_66 : decode cX12_isSo 66 = .ok (.iconst 1, 1) := by decide +kernel
theorem dX12_isSo_67 : decode cX12_isSo 67 = .ok (.aload_n 0, 1) := by decide +kernel
theorem dX12_isSo_68 : decode cX12_isSo 68 = .ok (.getfield 19, 3) := by decide +kernel
theorem dX12_isSo_71 : decode cX12_isSo 71 = .ok (.iload 4, 2) := by decide +kernel
theorem dX12_isSo_73 : decode cX12_isSo 73 = .ok (.iconst 1, 1) := by decide +kernel
theorem dX12_isSo_74 : decode cX12_isSo 74 = .ok (.isub, 1) := by decide +kernel
theorem dX12_isSo_75 : decode cX12_isSo 75 = .ok (.iaload, 1) := by decide +kernel
theorem dX12_isSo_76 : decode cX12_isSo 76 = .ok (.isub, 1) := by decide +kernel
theorem dX12_isSo_77 : decode cX12_isSo 77 = .ok (.iastore, 1) := by decide +kernel
theorem dX12_isSo_78 : decode cX12_isSo 78 = .ok (.goto 44, 3) := by decide +kernel
theorem dX12_isSo_81 : decode cX12_isSo 81 = .ok (.iinc 4 (-1), 3) := by decide +kernel
theorem dX12_isSo_84 : decode cX12_isSo 84 = .ok (.aload_n 0, 1) := by decide +kernel
theorem dX12_isSo_85 : decode cX12_isSo 85 = .ok (.getfield 19, 3) := by decide +kernel
theorem dX12_isSo_88 : decode cX12_isSo 88 = .ok (.iload 4, 2) := by decide +kernel
theorem dX12_isSo_90 : decode cX12_isSo 90 = .ok (.iconst 1, 1) := by decide +kernel
theorem dX12_isSo_91 : decode cX12_isSo 91 = .ok (.isub, 1) := by decide +kernel
theorem dX12_isSo_92 : decode cX12_isSo 92 = .ok (.iload 6, 2) := by decide +kernel
theorem dX12_isSo_94 : decode cX12_isSo 94 = .ok (.aload_n 0, 1) := by decide +kernel
theorem dX12_isSo_95 : decode cX12_isSo 95 = .ok (.getfield 19, 3) := by decide +kernel
theorem dX12_isSo_98 : decode cX12_isSo 98 = .ok (.iload 4, 2) := by decide +kernel
theorem dX12_isSo_100 : decode cX12_isSo 100 = .ok (.iconst 1, 1) := by decide +kernel
theorem dX12_isSo_101 : decode cX12_isSo 101 = .ok (.isub, 1) := by decide +kernel
theorem dX12_isSo_102 : decode cX12_isSo 102 = .ok (.iaload, 1) := by decide +kernel
theorem dX12_isSo_103 : decode cX12_isSo 103 = .ok (.aload_n 0, 1) := by decide +kernel
theorem dX12_isSo_104 : decode cX12_isSo 104 = .ok (.getfield 19, 3) := by decide +kernel
theorem dX12_isSo_107 : decode cX12_isSo 107 = .ok (.iload 4, 2) := by decide +kernel
theorem dX12_isSo_109 : decode cX12_isSo 109 = .ok (.iaload, 1) := by decide +kernel
theorem dX12_isSo_110 : decode cX12_isSo 110 = .ok (.invokestatic 129, 3) := by decide +kernel
theorem dX12_isSo_113 : decode cX12_isSo 113 = .ok (.ifCond .eq 7, 3) := by decide +kernel
theorem dX12_isSo_116 : decode cX12_isSo 116 = .ok (.iconst 1, 1) := by decide +kernel
theorem dX12_isSo_117 : decode cX12_isSo 117 = .ok (.goto 4, 3) := by decide +kernel
theorem dX12_isSo_120 : decode cX12_isSo 120 = .ok (.iconst 0, 1) := by decide +kernel
theorem dX12_isSo_121 : decode cX12_isSo 121 = .ok (.iastore, 1) := by decide +kernel
theorem dX12_isSo_122 : decode cX12_isSo 122 = .ok (.iinc 5 1, 3) := by decide +kernel
theorem dX12_isSo_125 : decode cX12_isSo 125 = .ok (.goto (-119), 3) := by decide +kernel
theorem dX12_isSo_128 : decode cX12_isSo 128 = .ok (.iload 4, 2) := by decide +kernel
theorem dX12_isSo_130 : decode cX12_isSo 130 = .ok (.ifCond .eq 13, 3) := by decide +kernel
theorem dX12_isSo_133 : decode cX12_isSo 133 = .ok (.aload_n 0, 1) := by decide +kernel
theorem dX12_isSo_134 : decode cX12_isSo 134 = .ok (.getfield 19, 3) := by decide +kernel
theorem dX12_isSo_137 : decode cX12_isSo 137 = .ok (.iconst 0, 1) := by decide +kernel
theorem dX12_isSo_138 : decode cX12_isSo 138 = .ok (.iaload, 1) := by decide +kernel
theorem dX12_isSo_139 : decode cX12_isSo 139 = .ok (.iconst 1, 1) := by decide +kernel
theorem dX12_isSo_140 : decode cX12_isSo 140 = .ok (.if_icmp .ne 7, 3) := by decide +kernel
theorem dX12_isSo_143 : decode cX12_isSo 143 = .ok (.iconst 1, 1) := by decide +kernel
theorem dX12_isSo_144 : decode cX12_isSo 144 = .ok (.goto 4, 3) := by decide +kernel
theorem dX12_isSo_147 : decode cX12_isSo 147 = .ok (.iconst 0, 1) := by decide +kernel
theorem dX12_isSo_148 : decode cX12_isSo 148 = .ok (.ireturn, 1) := by decide +kernel
theorem dX12_will_0 : decode cX12_will 0 = .ok (.aload_n 0, 1) := by decide +kernel
theorem dX12_will_1 : decode cX12_will 1 = .ok (.iload_n 1, 1) := by decide +kernel
theorem dX12_will_2 : decode cX12_will 2 = .ok (.iconst 0, 1) := by decide +kernel
theorem dX12_will_3 : decode cX12_will 3 = .ok (.invokevirtual 83, 3) := by decide +kernel
theorem dX12_will_6 : decode cX12_will 6 = .ok (.istore_n 2, 1) := by decide +kernel
theorem dX12_will_7 : decode cX12_will 7 = .ok (.iconst (-1), 1) := by decide +kernel
theorem dX12_will_8 : decode cX12_will 8 = .ok (.istore_n 3, 1) := by decide +kernel
theorem dX12_will_9 : decode cX12_will 9 = .ok (.iconst 0, 1) := by decide +kernel
theorem dX12_will_10 : decode cX12_will 10 = .ok (.istore 4, 2) := by decide +kernel
theorem dX12_will_12 : decode cX12_will 12 = .ok (.iconst 0, 1) := by decide +kernel
theorem dX12_will_13 : decode cX12_will 13 = .ok (.istore 5, 2) := by decide +kernel
theorem dX12_will_15 : decode cX12_will 15 = .ok (.iload 5, 2) := by decide +kernel
theorem dX12_will_17 : decode cX12_will 17 = .ok (.aload_n 0, 1) := by decide +kernel
theorem dX12_will_18 : decode cX12_will 18 = .ok (.getfield 7, 3) := by decide +kernel
theorem dX12_will_21 : decode cX12_will 21 = .ok (.iconst 1, 1) := by decide +kernel
theorem dX12_will_22 : decode cX12_will 22 = .ok (.iaload, 1) := by decide +kernel
theorem dX12_will_23 : decode cX12_will 23 = .ok (.if_icmp .ge 82, 3) := by decide +kernel
theorem dX12_will_26 : decode cX12_will 26 = .ok (.iload_n 3, 1) := by decide +kernel
theorem dX12_will_27 : decode cX12_will 27 = .ok (.ifCond .ge 78, 3) := by decide +kernel
theorem dX12_will_30 : decode cX12_will 30 = .ok (.bipush 72, 2) := by decide +kernel
theorem dX12_will_32 : decode cX12_will 32 = .ok (.iconst 3, 1) := by decide +kernel
theorem dX12_will_33 : decode cX12_will 33 = .ok (.iload 5, 2) := by decide +kernel
theorem dX12_will_35 : decode cX12_will 35 = .ok (.imul, 1) := by decide +kernel
theorem dX12_will_36 : decode cX12_will 36 = .ok (.iadd, 1) := by decide +kernel
theorem dX12_will_37 : decode cX12_will 37 = .ok (.istore 6, 2) := by decide +kernel
theorem dX12_will_39 : decode cX12_will 39 = .ok (.iload_n 2, 1) := by decide +kernel
theorem dX12_will_40 : decode cX12_will 40 = .ok (.aload_n 0, 1) := by decide +kernel
theorem dX12_will_41 : decode cX12_will 41 = .ok (.getfield 7, 3) := by decide +kernel
theorem dX12_will_44 : decode cX12_will 44 = .ok (.iload 6, 2) := by decide +kernel
theorem dX12_will_46 : decode cX12_will 46 = .ok (.iconst 0, 1) := by decide +kernel
theorem dX12_will_47 : decode cX12_will 47 = .ok (.iadd, 1) := by decide +kernel
theorem dX12_will_48 : decode cX12_will 48 = .ok (.iaload, 1) := by decide +kernel
theorem dX12_will_49 : decode cX12_will 49 = .ok (.invokestatic 133, 3) := by decide +kernel
theorem dX12_will_52 : decode cX12_will 52 = .ok (.ifCond .eq 34, 3) := by decide +kernel
theorem dX12_will_55 : decode cX12_will 55 = .ok (.aload_n 0, 1) := by decide +kernel
theorem dX12_will_56 : decode cX12_will 56 = .ok (.iload 4, 2) := by decide +kernel
theorem dX12_will_58 : decode cX12_will 58 = .ok (.aload_n 0, 1) := by decide +kernel
theorem dX12_will_59 : decode cX12_will 59 = .ok (.getfield 7, 3) := by decide +kernel
theorem dX12_will_62 : decode cX12_will 62 = .ok (.iload 6, 2) := by decide +kernel
theorem dX12_will_64 : decode cX12_will 64 = .ok (.iconst 2, 1) := by decide +kernel
theorem dX12_will_65 : decode cX12_will 65 = .ok (.iadd, 1) := by decide +kernel
theorem dX12_will_66 : decode cX12_will 66 = .ok (.iaload, 1) := by decide +kernel
theorem dX12_will_67 : decode cX12_will 67 = .ok (.iload_n 1, 1) := by decide +kernel
theorem dX12_will_68 : decode cX12_will 68 = .ok (.invokevirtual 136, 3) := by decide +kernel
theorem dX12_will_71 : decode cX12_will 71 = .ok (.ifCond .eq 15, 3) := by decide +kernel
theorem dX12_will_74 : decode cX12_will 74 = .ok (.aload_n 0, 1) := by decide +kernel
theorem dX12_will_75 : decode cX12_will 75 = .ok (.getfield 7, 3) := by decide +kernel
theorem dX12_will_78 : decode cX12_will 78 = .ok (.iload 6, 2) := by decide +kernel
theorem dX12_will_80 : decode cX12_will 80 = .ok (.iconst 1, 1) := by decide +kernel
theorem dX12_will_81 : decode cX12_will 81 = .ok (.iadd, 1) := by decide +kernel
theorem dX12_will_82 : decode cX12_will 82 = .ok (.iaload, 1) := by decide +kernel
theorem dX12_will_83 : decode cX12_will 83 = .ok (.goto 4, 3) := by decide +kernel
theorem dX12_will_86 : decode cX12_will 86 = .ok (.iconst (-1), 1) := by decide +kernel
theorem dX12_will_87 : decode cX12_will 87 = .ok (.istore_n 3, 1) := by decide +kernel
theorem dX12_will_88 : decode cX12_will 88 = .ok (.aload_n 0, 1) := by decide +kernel
theorem dX12_will_89 : decode cX12_will 89 = .ok (.getfield 7, 3) := by decide +kernel
theorem dX12_will_92 : decode cX12_will 92 = .ok (.iload 6, 2) := by decide +kernel
theorem dX12_will_94 : decode cX12_will 94 = .ok (.iconst 2, 1) := by decide +kernel
theorem dX12_will_95 : decode cX12_will 95 = .ok (.iadd, 1) := by decide +kernel
theorem dX12_will_96 : decode cX12_will 96 = .ok (.iaload, 1) := by decide +kernel
theorem dX12_will_97 : decode cX12_will 97 = .ok (.istore 4, 2) := by decide +kernel
theorem dX12_will_99 : decode cX12_will 99 = .ok (.iinc 5 1, 3) := by decide +kernel
theorem dX12_will_102 : decode cX12_will 102 = .ok (.goto (-87), 3) := by decide +kernel
theorem dX12_will_105 : decode cX12_will 105 = .ok (.iload_n 3, 1) := by decide +kernel
theorem dX12_will_106 : decode cX12_will 106 = .ok (.ifCond .ge 7, 3) := by decide +kernel
theorem dX12_will_109 : decode cX12_will 109 = .ok (.iconst 0, 1) := by decide +kernel
theorem dX12_will_110 : decode cX12_will 110 = .ok (.goto 4, 3) := by decide +kernel
theorem dX12_will_113 : decode cX12_will 113 = .ok (.iload_n 3, 1) := by decide +kernel
theorem dX12_will_114 : decode cX12_will 114 = .ok (.ireturn, 1) := by decide +kernel
theorem dX12_heldPlace_0 : decode cX12_heldPlace 0 = .ok (.iload_n 0, 1) := by decide +kernel
theorem dX12_heldPlace_1 : decode cX12_heldPlace 1 = .ok (.ifCond .ge 7, 3) := by decide +kernel
theorem dX12_heldPlace_4 : decode cX12_heldPlace 4 = .ok (.iconst 0, 1) := by decide +kernel
theorem dX12_heldPlace_5 : decode cX12_heldPlace 5 = .ok (.goto 15, 3) := by decide +kernel
theorem dX12_heldPlace_8 : decode cX12_heldPlace 8 = .ok (.iload_n 0, 1) := by decide +kernel
theorem dX12_heldPlace_9 : decode cX12_heldPlace 9 = .ok (.bipush 15, 2) := by decide +kernel
theorem dX12_heldPlace_11 : decode cX12_heldPlace 11 = .ok (.if_icmp .le 8, 3) := by decide +kernel
theorem dX12_heldPlace_14 : decode cX12_heldPlace 14 = .ok (.bipush 15, 2) := by decide +kernel
theorem dX12_heldPlace_16 : decode cX12_heldPlace 16 = .ok (.goto 4, 3) := by decide +kernel
theorem dX12_heldPlace_19 : decode cX12_heldPlace 19 = .ok (.iload_n 0, 1) := by decide +kernel
theorem dX12_heldPlace_20 : decode cX12_heldPlace 20 = .ok (.ireturn, 1) := by decide +kernel
theorem dX12_driftsTo_0 : decode cX12_driftsTo 0 = .ok (.aload_n 0, 1) := by decide +kernel
theorem dX12_driftsTo_1 : decode cX12_driftsTo 1 = .ok (.getfield 7, 3) := by decide +kernel
theorem dX12_driftsTo_4 : decode cX12_driftsTo 4 = .ok (.bipush 8, 2) := by decide +kernel
theorem dX12_driftsTo_6 : decode cX12_driftsTo 6 = .ok (.iload_n 3, 1) := by decide +kernel
theorem dX12_driftsTo_7 : decode cX12_driftsTo 7 = .ok (.iadd, 1) := by decide +kernel
theorem dX12_driftsTo_8 : decode cX12_driftsTo 8 = .ok (.iaload, 1) := by decide +kernel
theorem dX12_driftsTo_9 : decode cX12_driftsTo 9 = .ok (.istore 4, 2) := by decide +kernel
theorem dX12_driftsTo_11 : decode cX12_driftsTo 11 = .ok (.iload 4, 2) := by decide +kernel
theorem dX12_driftsTo_13 : decode cX12_driftsTo 13 = .ok (.iconst 1, 1) := by decide +kernel
theorem dX12_driftsTo_14 : decode cX12_driftsTo 14 = .ok (.if_icmp .ne 9, 3) := by decide +kernel
theorem dX12_driftsTo_17 : decode cX12_driftsTo 17 = .ok (.iload_n 1, 1) := by decide +kernel
theorem dX12_driftsTo_18 : decode cX12_driftsTo 18 = .ok (.iload_n 2, 1) := by decide +kernel
theorem dX12_driftsTo_19 : decode cX12_driftsTo 19 = .ok (.iadd, 1) := by decide +kernel
theorem dX12_driftsTo_20 : decode cX12_driftsTo 20 = .ok (.goto 16, 3) := by decide +kernel
theorem dX12_driftsTo_23 : decode cX12_driftsTo 23 = .ok (.iload 4, 2) := by decide +kernel
theorem dX12_driftsTo_25 : decode cX12_driftsTo 25 = .ok (.iconst 2, 1) := by decide +kernel
theorem dX12_driftsTo_26 : decode cX12_driftsTo 26 = .ok (.if_icmp .ne 9, 3) := by decide +kernel
theorem dX12_driftsTo_29 : decode cX12_driftsTo 29 = .ok (.iload_n 1, 1) := by decide +kernel
theorem dX12_driftsTo_30 : decode cX12_driftsTo 30 = .ok (.iload_n 2, 1) := by decide +kernel
theorem dX12_driftsTo_31 : decode cX12_driftsTo 31 = .ok (.isub, 1) := by decide +kernel
theorem dX12_driftsTo_32 : decode cX12_driftsTo 32 = .ok (.goto 4, 3) := by decide +kernel
theorem dX12_driftsTo_35 : decode cX12_driftsTo 35 = .ok (.iload_n 1, 1) := by decide +kernel
theorem dX12_driftsTo_36 : decode cX12_driftsTo 36 = .ok (.invokestatic 139, 3) := by decide +kernel
theorem dX12_driftsTo_39 : decode cX12_driftsTo 39 = .ok (.ireturn, 1) := by decide +kernel
theorem dX12_isIn_0 : decode cX12_isIn 0 = .ok (.aload_n 0, 1) := by decide +kernel
theorem dX12_isIn_1 : decode cX12_isIn 1 = .ok (.iload_n 1, 1) := by decide +kernel
theorem dX12_isIn_2 : decode cX12_isIn 2 = .ok (.iconst 4, 1) := by decide +kernel
theorem dX12_isIn_3 : decode cX12_isIn 3 = .ok (.invokevirtual 83, 3) := by decide +kernel
theorem dX12_isIn_6 : decode cX12_isIn 6 = .ok (.ifCond .ne 26, 3) := by decide +kernel
theorem dX12_isIn_9 : decode cX12_isIn 9 = .ok (.aload_n 0, 1) := by decide +kernel
theorem dX12_isIn_10 : decode cX12_isIn 10 = .ok (.iload_n 1, 1) := by decide +kernel
theorem dX12_isIn_11 : decode cX12_isIn 11 = .ok (.iconst 3, 1) := by decide +kernel
theorem dX12_isIn_12 : decode cX12_isIn 12 = .ok (.invokevirtual 83, 3) := by decide +kernel
theorem dX12_isIn_15 : decode cX12_isIn 15 = .ok (.iload_n 2, 1) := by decide +kernel
theorem dX12_isIn_16 : decode cX12_isIn 16 = .ok (.isub, 1) := by decide +kernel
theorem dX12_isIn_17 : decode cX12_isIn 17 = .ok (.i2l, 1) := by decide +kernel
theorem dX12_isIn_18 : decode cX12_isIn 18 = .ok (.ldc2_w 142, 3) := by decide +kernel
theorem dX12_isIn_21 : decode cX12_isIn 21 = .ok (.lconst 1, 1) := by decide +kernel
theorem dX12_isIn_22 : decode cX12_isIn 22 = .ok (.invokestatic 61, 3) := by decide +kernel
theorem dX12_isIn_25 : decode cX12_isIn 25 = .ok (.ifCond .eq 7, 3) := by decide +kernel
theorem dX12_isIn_28 : decode cX12_isIn 28 = .ok (.iconst 1, 1) := by decide +kernel
theorem dX12_isIn_29 : decode cX12_isIn 29 = .ok (.goto 4, 3) := by decide +kernel
theorem dX12_isIn_32 : decode cX12_isIn 32 = .ok (.iconst 0, 1) := by decide +kernel
theorem dX12_isIn_33 : decode cX12_isIn 33 = .ok (.ireturn, 1) := by decide +kernel
theorem dX12_heldAt_0 : decode cX12_heldAt 0 = .ok (.iconst 0, 1) := by decide +kernel
theorem dX12_heldAt_1 : decode cX12_heldAt 1 = .ok (.istore_n 2, 1) := by decide +kernel
theorem dX12_heldAt_2 : decode cX12_heldAt 2 = .ok (.iconst 0, 1) := by decide +kernel
theorem dX12_heldAt_3 : decode cX12_heldAt 3 = .ok (.istore_n 3, 1) := by decide +kernel
theorem dX12_heldAt_4 : decode cX12_heldAt 4 = .ok (.iload_n 3, 1) := by decide +kernel
theorem dX12_heldAt_5 : decode cX12_heldAt 5 = .ok (.aload_n 0, 1) := by decide +kernel
theorem dX12_heldAt_6 : decode cX12_heldAt 6 = .ok (.getfield 7, 3) := by decide +kernel
theorem dX12_heldAt_9 : decode cX12_heldAt 9 = .ok (.iconst 0, 1) := by decide +kernel
theorem dX12_heldAt_10 : decode cX12_heldAt 10 = .ok (.iaload, 1) := by decide +kernel
theorem dX12_heldAt_11 : decode cX12_heldAt 11 = .ok (.if_icmp .ge 53, 3) := by decide +kernel
theorem dX12_heldAt_14 : decode cX12_heldAt 14 = .ok (.aload_n 0, 1) := by decide +kernel
theorem dX12_heldAt_15 : decode cX12_heldAt 15 = .ok (.iload_n 3, 1) := by decide +kernel
theorem dX12_heldAt_16 : decode cX12_heldAt 16 = .ok (.iload_n 1, 1) := by decide +kernel
theorem dX12_heldAt_17 : decode cX12_heldAt 17 = .ok (.invokevirtual 144, 3) := by decide +kernel
theorem dX12_heldAt_20 : decode cX12_heldAt 20 = .ok (.ifCond .eq 38, 3) := by decide +kernel
theorem dX12_heldAt_23 : decode cX12_heldAt 23 = .ok (.aload_n 0, 1) := by decide +kernel
theorem dX12_heldAt_24 : decode cX12_heldAt 24 = .ok (.iload_n 3, 1) := by decide +kernel
theorem dX12_heldAt_25 : decode cX12_heldAt 25 = .ok (.invokevirtual 102, 3) := by decide +kernel
theorem dX12_heldAt_28 : decode cX12_heldAt 28 = .ok (.ifCond .eq 5, 3) := by decide +kernel
theorem dX12_heldAt_31 : decode cX12_heldAt 31 = .ok (.iconst 0, 1) := by decide +kernel
theorem dX12_heldAt_32 : decode cX12_heldAt 32 = .ok (.ireturn, 1) := by decide +kernel
theorem dX12_heldAt_33 : decode cX12_heldAt 33 = .ok (.iload_n 2, 1) := by decide +kernel
theorem dX12_heldAt_34 : decode cX12_heldAt 34 = .ok (.aload_n 0, 1) := by decide +kernel
theorem dX12_heldAt_35 : decode cX12_heldAt 35 = .ok (.iload_n 3, 1) := by decide +kernel
theorem dX12_heldAt_36 : decode cX12_heldAt 36 = .ok (.iconst 2, 1) := by decide +kernel
theorem dX12_heldAt_37 : decode cX12_heldAt 37 = .ok (.invokevirtual 83, 3) := by decide +kernel
theorem dX12_heldAt_40 : decode cX12_heldAt 40 = .ok (.aload_n 0, 1) := by decide +kernel
theorem dX12_heldAt_41 : decode cX12_heldAt 41 = .ok (.getfield 7, 3) := by decide +kernel
theorem dX12_heldAt_44 : decode cX12_heldAt 44 = .ok (.iconst 5, 1) := by decide +kernel
theorem dX12_heldAt_45 : decode cX12_heldAt 45 = .ok (.iaload, 1) := by decide +kernel
theorem dX12_heldAt_46 : decode cX12_heldAt 46 = .ok (.if_icmp .le 9, 3) := by decide +kernel
theorem dX12_heldAt_49 : decode cX12_heldAt 49 = .ok (.iconst 1, 1) := by decide +kernel
theorem dX12_heldAt_50 : decode cX12_heldAt 50 = .ok (.iload_n 3, 1) := by decide +kernel
theorem dX12_heldAt_51 : decode cX12_heldAt 51 = .ok (.ishl, 1) := by decide +kernel
theorem dX12_heldAt_52 : decode cX12_heldAt 52 = .ok (.goto 4, 3) := by decide +kernel
theorem dX12_heldAt_55 : decode cX12_heldAt 55 = .ok (.iconst 0, 1) := by decide +kernel
theorem dX12_heldAt_56 : decode cX12_heldAt 56 = .ok (.ior, 1) := by decide +kernel
theorem dX12_heldAt_57 : decode cX12_heldAt 57 = .ok (.istore_n 2, 1) := by decide +kernel
theorem dX12_heldAt_58 : decode cX12_heldAt 58 = .ok (.iinc 3 1, 3) := by decide +kernel
theorem dX12_heldAt_61 : decode cX12_heldAt 61 = .ok (.goto (-57), 3) := by decide +kernel
theorem dX12_heldAt_64 : decode cX12_heldAt 64 = .ok (.iload_n 2, 1) := by decide +kernel
theorem dX12_heldAt_65 : decode cX12_heldAt 65 = .ok (.ireturn, 1) := by decide +kernel
theorem dX12_doneWith_0 : decode cX12_doneWith 0 = .ok (.aload_n 0, 1) := by decide +kernel
theorem dX12_doneWith_1 : decode cX12_doneWith 1 = .ok (.iload_n 1, 1) := by decide +kernel
theorem dX12_doneWith_2 : decode cX12_doneWith 2 = .ok (.invokevirtual 105, 3) := by decide +kernel
theorem dX12_doneWith_5 : decode cX12_doneWith 5 = .ok (.istore_n 2, 1) := by decide +kernel
theorem dX12_doneWith_6 : decode cX12_doneWith 6 = .ok (.aload_n 0, 1) := by decide +kernel
theorem dX12_doneWith_7 : decode cX12_doneWith 7 = .ok (.getfield 7, 3) := by decide +kernel
theorem dX12_doneWith_10 : decode cX12_doneWith 10 = .ok (.iload_n 1, 1) := by decide +kernel
theorem dX12_doneWith_11 : decode cX12_doneWith 11 = .ok (.iconst 4, 1) := by decide +kernel
theorem dX12_doneWith_12 : decode cX12_doneWith 12 = .ok (.invokestatic 65, 3) := by decide +kernel
theorem dX12_doneWith_15 : decode cX12_doneWith 15 = .ok (.iload_n 2, 1) := by decide +kernel
theorem dX12_doneWith_16 : decode cX12_doneWith 16 = .ok (.iconst 1, 1) := by decide +kernel
theorem dX12_doneWith_17 : decode cX12_doneWith 17 = .ok (.if_icmp .ne 7, 3) := by decide +kernel
theorem dX12_doneWith_20 : decode cX12_doneWith 20 = .ok (.iconst 0, 1) := by decide +kernel
theorem dX12_doneWith_21 : decode cX12_doneWith 21 = .ok (.goto 4, 3) := by decide +kernel
theorem dX12_doneWith_24 : decode cX12_doneWith 24 = .ok (.iconst 1, 1) := by decide +kernel
theorem dX12_doneWith_25 : decode cX12_doneWith 25 = .ok (.iastore, 1) := by decide +kernel
theorem dX12_doneWith_26 : decode cX12_doneWith 26 = .ok (.iload_n 2, 1) := by decide +kernel
theorem dX12_doneWith_27 : decode cX12_doneWith 27 = .ok (.iconst 1, 1) := by decide +kernel
theorem dX12_doneWith_28 : decode cX12_doneWith 28 = .ok (.if_icmp .ne 7, 3) := by decide +kernel
theorem dX12_doneWith_31 : decode cX12_doneWith 31 = .ok (.iconst 1, 1) := by decide +kernel
theorem dX12_doneWith_32 : decode cX12_doneWith 32 = .ok (.goto 25, 3) := by decide +kernel
theorem dX12_doneWith_35 : decode cX12_doneWith 35 = .ok (.iload_n 2, 1) := by decide +kernel
theorem dX12_doneWith_36 : decode cX12_doneWith 36 = .ok (.iconst 2, 1) := by decide +kernel
theorem dX12_doneWith_37 : decode cX12_doneWith 37 = .ok (.if_icmp .ne 15, 3) := by decide +kernel
theorem dX12_doneWith_40 : decode cX12_doneWith 40 = .ok (.aload_n 0, 1) := by decide +kernel
theorem dX12_doneWith_41 : decode cX12_doneWith 41 = .ok (.iload_n 1, 1) := by decide +kernel
theorem dX12_doneWith_42 : decode cX12_doneWith 42 = .ok (.invokevirtual 99, 3) := by decide +kernel
theorem dX12_doneWith_45 : decode cX12_doneWith 45 = .ok (.iconst 2, 1) := by decide +kernel
theorem dX12_doneWith_46 : decode cX12_doneWith 46 = .ok (.idiv, 1) := by decide +kernel
theorem dX12_doneWith_47 : decode cX12_doneWith 47 = .ok (.iconst 3, 1) := by decide +kernel
theorem dX12_doneWith_48 : decode cX12_doneWith 48 = .ok (.iadd, 1) := by decide +kernel
theorem dX12_doneWith_49 : decode cX12_doneWith 49 = .ok (.goto 8, 3) := by decide +kernel
theorem dX12_doneWith_52 : decode cX12_doneWith 52 = .ok (.aload_n 0, 1) := by decide +kernel
theorem dX12_doneWith_53 : decode cX12_doneWith 53 = .ok (.iload_n 1, 1) := by decide +kernel
theorem dX12_doneWith_54 : decode cX12_doneWith 54 = .ok (.invokevirtual 99, 3) := by decide +kernel
theorem dX12_doneWith_57 : decode cX12_doneWith 57 = .ok (.ireturn, 1) := by decide +kernel
theorem dX12_goes_0 : decode cX12_goes 0 = .ok (.iconst 0, 1) := by decide +kernel
theorem dX12_goes_1 : decode cX12_goes 1 = .ok (.istore_n 2, 1) := by decide +kernel
theorem dX12_goes_2 : decode cX12_goes 2 = .ok (.iload_n 2, 1) := by decide +kernel
theorem dX12_goes_3 : decode cX12_goes 3 = .ok (.aload_n 0, 1) := by decide +kernel
theorem dX12_goes_4 : decode cX12_goes 4 = .ok (.getfield 7, 3) := by decide +kernel
theorem dX12_goes_7 : decode cX12_goes 7 = .ok (.iconst 0, 1) := by decide +kernel
theorem dX12_goes_8 : decode cX12_goes 8 = .ok (.iaload, 1) := by decide +kernel
theorem dX12_goes_9 : decode cX12_goes 9 = .ok (.if_icmp .ge 59, 3) := by decide +kernel
theorem dX12_goes_12 : decode cX12_goes 12 = .ok (.aload_n 0, 1) := by decide +kernel
theorem dX12_goes_13 : decode cX12_goes 13 = .ok (.getfield 7, 3) := by decide +kernel
theorem dX12_goes_16 : decode cX12_goes 16 = .ok (.iload_n 2, 1) := by decide +kernel
theorem dX12_goes_17 : decode cX12_goes 17 = .ok (.iconst 3, 1) := by decide +kernel
theorem dX12_goes_18 : decode cX12_goes 18 = .ok (.invokestatic 65, 3) := by decide +kernel
theorem dX12_goes_21 : decode cX12_goes 21 = .ok (.aload_n 0, 1) := by decide +kernel
theorem dX12_goes_22 : decode cX12_goes 22 = .ok (.iload_n 2, 1) := by decide +kernel
theorem dX12_goes_23 : decode cX12_goes 23 = .ok (.iconst 4, 1) := by decide +kernel
theorem dX12_goes_24 : decode cX12_goes 24 = .ok (.invokevirtual 83, 3) := by decide +kernel
theorem dX12_goes_27 : decode cX12_goes 27 = .ok (.iconst 1, 1) := by decide +kernel
theorem dX12_goes_28 : decode cX12_goes 28 = .ok (.if_icmp .ne 12, 3) := by decide +kernel
theorem dX12_goes_31 : decode cX12_goes 31 = .ok (.aload_n 0, 1) := by decide +kernel
theorem dX12_goes_32 : decode cX12_goes 32 = .ok (.iload_n 2, 1) := by decide +kernel
theorem dX12_goes_33 : decode cX12_goes 33 = .ok (.iconst 3, 1) := by decide +kernel
theorem dX12_goes_34 : decode cX12_goes 34 = .ok (.invokevirtual 83, 3) := by decide +kernel
theorem dX12_goes_37 : decode cX12_goes 37 = .ok (.goto 24, 3) := by decide +kernel
theorem dX12_goes_40 : decode cX12_goes 40 = .ok (.aload_n 0, 1) := by decide +kernel
theorem dX12_goes_41 : decode cX12_goes 41 = .ok (.aload_n 0, 1) := by decide +kernel
theorem dX12_goes_42 : decode cX12_goes 42 = .ok (.iload_n 2, 1) := by decide +kernel
theorem dX12_goes_43 : decode cX12_goes 43 = .ok (.iconst 3, 1) := by decide +kernel
theorem dX12_goes_44 : decode cX12_goes 44 = .ok (.invokevirtual 83, 3) := by decide +kernel
theorem dX12_goes_47 : decode cX12_goes 47 = .ok (.aload_n 0, 1) := by decide +kernel
theorem dX12_goes_48 : decode cX12_goes 48 = .ok (.iload_n 2, 1) := by decide +kernel
theorem dX12_goes_49 : decode cX12_goes 49 = .ok (.invokevirtual 95, 3) := by decide +kernel
theorem dX12_goes_52 : decode cX12_goes 52 = .ok (.aload_n 0, 1) := by decide +kernel
theorem dX12_goes_53 : decode cX12_goes 53 = .ok (.getfield 7, 3) := by decide +kernel
theorem dX12_goes_56 : decode cX12_goes 56 = .ok (.iconst 3, 1) := by decide +kernel
theorem dX12_goes_57 : decode cX12_goes 57 = .ok (.iaload, 1) := by decide +kernel
theorem dX12_goes_58 : decode cX12_goes 58 = .ok (.invokevirtual 147, 3) := by decide +kernel
theorem dX12_goes_61 : decode cX12_goes 61 = .ok (.iastore, 1) := by decide +kernel
theorem dX12_goes_62 : decode cX12_goes 62 = .ok (.iinc 2 1, 3) := by decide +kernel
theorem dX12_goes_65 : decode cX12_goes 65 = .ok (.goto (-63), 3) := by decide +kernel
theorem dX12_goes_68 : decode cX12_goes 68 = .ok (.iload_n 1, 1) := by decide +kernel
theorem dX12_goes_69 : decode cX12_goes 69 = .ok (.ifCond .le 18, 3) := by decide +kernel
theorem dX12_goes_72 : decode cX12_goes 72 = .ok (.aload_n 0, 1) := by decide +kernel
theorem dX12_goes_73 : decode cX12_goes 73 = .ok (.iload_n 1, 1) := by decide +kernel
theorem dX12_goes_74 : decode cX12_goes 74 = .ok (.iconst 1, 1) := by decide +kernel
theorem dX12_goes_75 : decode cX12_goes 75 = .ok (.isub, 1) := by decide +kernel
theorem dX12_goes_76 : decode cX12_goes 76 = .ok (.iconst 4, 1) := by decide +kernel
theorem dX12_goes_77 : decode cX12_goes 77 = .ok (.invokevirtual 83, 3) := by decide +kernel
theorem dX12_goes_80 : decode cX12_goes 80 = .ok (.ifCond .ne 7, 3) := by decide +kernel
theorem dX12_goes_83 : decode cX12_goes 83 = .ok (.iconst 1, 1) := by decide +kernel
theorem dX12_goes_84 : decode cX12_goes 84 = .ok (.goto 4, 3) := by decide +kernel
theorem dX12_goes_87 : decode cX12_goes 87 = .ok (.iconst 0, 1) := by decide +kernel
theorem dX12_goes_88 : decode cX12_goes 88 = .ok (.istore_n 2, 1) := by decide +kernel
theorem dX12_goes_89 : decode cX12_goes 89 = .ok (.iload_n 2, 1) := by decide +kernel
theorem dX12_goes_90 : decode cX12_goes 90 = .ok (.ifCond .eq 18, 3) := by decide +kernel
theorem dX12_goes_93 : decode cX12_goes 93 = .ok (.aload_n 0, 1) := by decide +kernel
theorem dX12_goes_94 : decode cX12_goes 94 = .ok (.aload_n 0, 1) := by decide +kernel
theorem dX12_goes_95 : decode cX12_goes 95 = .ok (.iload_n 1, 1) := by decide +kernel
theorem dX12_goes_96 : decode cX12_goes 96 = .ok (.iconst 1, 1) := by decide +kernel
theorem dX12_goes_97 : decode cX12_goes 97 = .ok (.isub, 1) := by decide +kernel
theorem dX12_goes_98 : decode cX12_goes 98 = .ok (.iconst 3, 1) := by decide +kernel
theorem dX12_goes_99 : decode cX12_goes 99 = .ok (.invokevirtual 83, 3) := by decide +kernel
theorem dX12_goes_102 : decode cX12_goes 102 = .ok (.invokevirtual 150, 3) := by decide +kernel
theorem dX12_goes_105 : decode cX12_goes 105 = .ok (.goto 4, 3) := by decide +kernel
theorem dX12_goes_108 : decode cX12_goes 108 = .ok (.iconst 0, 1) := by decide +kernel
theorem dX12_goes_109 : decode cX12_goes 109 = .ok (.istore_n 3, 1) := by decide +kernel
theorem dX12_goes_110 : decode cX12_goes 110 = .ok (.iconst 0, 1) := by decide +kernel
theorem dX12_goes_111 : decode cX12_goes 111 = .ok (.istore 4, 2) := by decide +kernel
theorem dX12_goes_113 : decode cX12_goes 113 = .ok (.iconst 0, 1) := by decide +kernel
theorem dX12_goes_114 : decode cX12_goes 114 = .ok (.istore 5, 2) := by decide +kernel
theorem dX12_goes_116 : decode cX12_goes 116 = .ok (.iload 5, 2) := by decide +kernel
theorem dX12_goes_118 : decode cX12_goes 118 = .ok (.aload_n 0, 1) := by decide +kernel
theorem dX12_goes_119 : decode cX12_goes 119 = .ok (.getfield 7, 3) := by decide +kernel
theorem dX12_goes_122 : decode cX12_goes 122 = .ok (.iconst 0, 1) := by decide +kernel
theorem dX12_goes_123 : decode cX12_goes 123 = .ok (.iaload, 1) := by decide +kernel
theorem dX12_goes_124 : decode cX12_goes 124 = .ok (.if_icmp .ge 34, 3) := by decide +kernel
theorem dX12_goes_127 : decode cX12_goes 127 = .ok (.iload 4, 2) := by decide +kernel
theorem dX12_goes_129 : decode cX12_goes 129 = .ok (.iload_n 3, 1) := by decide +kernel
theorem dX12_goes_130 : decode cX12_goes 130 = .ok (.iload 5, 2) := by decide +kernel
theorem dX12_goes_132 : decode cX12_goes 132 = .ok (.ishr, 1) := by decide +kernel
theorem dX12_goes_133 : decode cX12_goes 133 = .ok (.iconst 1, 1) := by decide +kernel
theorem dX12_goes_134 : decode cX12_goes 134 = .ok (.iand, 1) := by decide +kernel
theorem dX12_goes_135 : decode cX12_goes 135 = .ok (.iconst 1, 1) := by decide +kernel
theorem dX12_goes_136 : decode cX12_goes 136 = .ok (.if_icmp .ne 12, 3) := by decide +kernel
theorem dX12_goes_139 : decode cX12_goes 139 = .ok (.aload_n 0, 1) := by decide +kernel
theorem dX12_goes_140 : decode cX12_goes 140 = .ok (.iload 5, 2) := by decide +kernel
theorem dX12_goes_142 : decode cX12_goes 142 = .ok (.invokevirtual 153, 3) := by decide +kernel
theorem dX12_goes_145 : decode cX12_goes 145 = .ok (.goto 4, 3) := by decide +kernel
theorem dX12_goes_148 : decode cX12_goes 148 = .ok (.iconst 0, 1) := by decide +kernel
theorem dX12_goes_149 : decode cX12_goes 149 = .ok (.iadd, 1) := by decide +kernel
theorem dX12_goes_150 : decode cX12_goes 150 = .ok (.istore 4, 2) := by decide +kernel
theorem dX12_goes_152 : decode cX12_goes 152 = .ok (.iinc 5 1, 3) := by decide +kernel
theorem dX12_goes_155 : decode cX12_goes 155 = .ok (.goto (-39), 3) := by decide +kernel
theorem dX12_goes_158 : decode cX12_goes 158 = .ok (.aload_n 0, 1) := by decide +kernel
theorem dX12_goes_159 : decode cX12_goes 159 = .ok (.getfield 7, 3) := by decide +kernel
theorem dX12_goes_162 : decode cX12_goes 162 = .ok (.iconst 4, 1) := by decide +kernel
theorem dX12_goes_163 : decode cX12_goes 163 = .ok (.dup2, 1) := by decide +kernel
theorem dX12_goes_164 : decode cX12_goes 164 = .ok (.iaload, 1) := by decide +kernel
theorem dX12_goes_165 : decode cX12_goes 165 = .ok (.iload 4, 2) := by decide +kernel
theorem dX12_goes_167 : decode cX12_goes 167 = .ok (.iadd, 1) := by decide +kernel
theorem dX12_goes_168 : decode cX12_goes 168 = .ok (.iastore, 1) := by decide +kernel
theorem dX12_goes_169 : decode cX12_goes 169 = .ok (.aload_n 0, 1) := by decide +kernel
theorem dX12_goes_170 : decode cX12_goes 170 = .ok (.getfield 7, 3) := by decide +kernel
theorem dX12_goes_173 : decode cX12_goes 173 = .ok (.iconst 3, 1) := by decide +kernel
theorem dX12_goes_174 : decode cX12_goes 174 = .ok (.dup2, 1) := by decide +kernel
theorem dX12_goes_175 : decode cX12_goes 175 = .ok (.iaload, 1) := by decide +kernel
theorem dX12_goes_176 : decode cX12_goes 176 = .ok (.iconst 1, 1) := by decide +kernel
theorem dX12_goes_177 : decode cX12_goes 177 = .ok (.iadd, 1) := by decide +kernel
theorem dX12_goes_178 : decode cX12_goes 178 = .ok (.iastore, 1) := by decide +kernel
theorem dX12_goes_179 : decode cX12_goes 179 = .ok (.iload 4, 2) := by decide +kernel
theorem dX12_goes_181 : decode cX12_goes 181 = .ok (.ireturn, 1) := by decide +kernel
theorem dX12_leastAct_0 : decode cX12_leastAct 0 = .ok (.iconst 0, 1) := by decide +kernel
theorem dX12_leastAct_1 : decode cX12_leastAct 1 = .ok (.istore_n 1, 1) := by decide +kernel
theorem dX12_leastAct_2 : decode cX12_leastAct 2 = .ok (.iload_n 1, 1) := by decide +kernel
theorem dX12_leastAct_3 : decode cX12_leastAct 3 = .ok (.aload_n 0, 1) := by decide +kernel
theorem dX12_leastAct_4 : decode cX12_leastAct 4 = .ok (.getfield 7, 3) := by decide +kernel
theorem dX12_leastAct_7 : decode cX12_leastAct 7 = .ok (.iconst 0, 1) := by decide +kernel
theorem dX12_leastAct_8 : decode cX12_leastAct 8 = .ok (.iaload, 1) := by decide +kernel
theorem dX12_leastAct_9 : decode cX12_leastAct 9 = .ok (.if_icmp .ge 22, 3) := by decide +kernel
theorem dX12_leastAct_12 : decode cX12_leastAct 12 = .ok (.aload_n 0, 1) := by decide +kernel
theorem dX12_leastAct_13 : decode cX12_leastAct 13 = .ok (.iload_n 1, 1) := by decide +kernel
theorem dX12_leastAct_14 : decode cX12_leastAct 14 = .ok (.iconst 4, 1) := by decide +kernel
theorem dX12_leastAct_15 : decode cX12_leastAct 15 = .ok (.invokevirtual 83, 3) := by decide +kernel
theorem dX12_leastAct_18 : decode cX12_leastAct 18 = .ok (.ifCond .ne 7, 3) := by decide +kernel
theorem dX12_leastAct_21 : decode cX12_leastAct 21 = .ok (.iload_n 1, 1) := by decide +kernel
theorem dX12_leastAct_22 : decode cX12_leastAct 22 = .ok (.iconst 1, 1) := by decide +kernel
theorem dX12_leastAct_23 : decode cX12_leastAct 23 = .ok (.iadd, 1) := by decide +kernel
theorem dX12_leastAct_24 : decode cX12_leastAct 24 = .ok (.ireturn, 1) := by decide +kernel
theorem dX12_leastAct_25 : decode cX12_leastAct 25 = .ok (.iinc 1 1, 3) := by decide +kernel
theorem dX12_leastAct_28 : decode cX12_leastAct 28 = .ok (.goto (-26), 3) := by decide +kernel
theorem dX12_leastAct_31 : decode cX12_leastAct 31 = .ok (.iconst 0, 1) := by decide +kernel
theorem dX12_leastAct_32 : decode cX12_leastAct 32 = .ok (.ireturn, 1) := by decide +kernel
theorem dX12_turn_0 : decode cX12_turn 0 = .ok (.aload_n 0, 1) := by decide +kernel
theorem dX12_turn_1 : decode cX12_turn 1 = .ok (.invokevirtual 118, 3) := by decide +kernel
theorem dX12_turn_4 : decode cX12_turn 4 = .ok (.ifCond .eq 8, 3) := by decide +kernel
theorem dX12_turn_7 : decode cX12_turn 7 = .ok (.bipush (-4), 2) := by decide +kernel
theorem dX12_turn_9 : decode cX12_turn 9 = .ok (.goto 11, 3) := by decide +kernel
theorem dX12_turn_12 : decode cX12_turn 12 = .ok (.aload_n 0, 1) := by decide +kernel
theorem dX12_turn_13 : decode cX12_turn 13 = .ok (.aload_n 0, 1) := by decide +kernel
theorem dX12_turn_14 : decode cX12_turn 14 = .ok (.invokevirtual 156, 3) := by decide +kernel
theorem dX12_turn_17 : decode cX12_turn 17 = .ok (.invokevirtual 159, 3) := by decide +kernel
theorem dX12_turn_20 : decode cX12_turn 20 = .ok (.ireturn, 1) := by decide +kernel
theorem dX12_rest_0 : decode cX12_rest 0 = .ok (.iconst 0, 1) := by decide +kernel
theorem dX12_rest_1 : decode cX12_rest 1 = .ok (.istore_n 2, 1) := by decide +kernel
theorem dX12_rest_2 : decode cX12_rest 2 = .ok (.iconst 0, 1) := by decide +kernel
theorem dX12_rest_3 : decode cX12_rest 3 = .ok (.istore_n 3, 1) := by decide +kernel
theorem dX12_rest_4 : decode cX12_rest 4 = .ok (.iload_n 3, 1) := by decide +kernel
theorem dX12_rest_5 : decode cX12_rest 5 = .ok (.iload_n 1, 1) := by decide +kernel
theorem dX12_rest_6 : decode cX12_rest 6 = .ok (.if_icmp .ge 27, 3) := by decide +kernel
theorem dX12_rest_9 : decode cX12_rest 9 = .ok (.aload_n 0, 1) := by decide +kernel
theorem dX12_rest_10 : decode cX12_rest 10 = .ok (.invokevirtual 118, 3) := by decide +kernel
theorem dX12_rest_13 : decode cX12_rest 13 = .ok (.ifCond .ne 20, 3) := by decide +kernel
theorem dX12_rest_16 : decode cX12_rest 16 = .ok (.iload_n 2, 1) := by decide +kernel
theorem dX12_rest_17 : decode cX12_rest 17 = .ok (.aload_n 0, 1) := by decide +kernel
theorem dX12_rest_18 : decode cX12_rest 18 = .ok (.aload_n 0, 1) := by decide +kernel
theorem dX12_rest_19 : decode cX12_rest 19 = .ok (.invokevirtual 156, 3) := by decide +kernel
theorem dX12_rest_22 : decode cX12_rest 22 = .ok (.invokevirtual 159, 3) := by decide +kernel
theorem dX12_rest_25 : decode cX12_rest 25 = .ok (.iadd, 1) := by decide +kernel
theorem dX12_rest_26 : decode cX12_rest 26 = .ok (.istore_n 2, 1) := by decide +kernel
theorem dX12_rest_27 : decode cX12_rest 27 = .ok (.iinc 3 1, 3) := by decide +kernel
theorem dX12_rest_30 : decode cX12_rest 30 = .ok (.goto (-26), 3) := by decide +kernel
theorem dX12_rest_33 : decode cX12_rest 33 = .ok (.iload_n 2, 1) := by decide +kernel
theorem dX12_rest_34 : decode cX12_rest 34 = .ok (.ireturn, 1) := by decide +kernel
theorem dX12_restTried_0 : decode cX12_restTried 0 = .ok (.aload_n 0, 1) := by decide +kernel
theorem dX12_restTried_1 : decode cX12_restTried 1 = .ok (.invokevirtual 162, 3) := by decide +kernel
theorem dX12_restTried_4 : decode cX12_restTried 4 = .ok (.aload_n 0, 1) := by decide +kernel
theorem dX12_restTried_5 : decode cX12_restTried 5 = .ok (.iload_n 1, 1) := by decide +kernel
theorem dX12_restTried_6 : decode cX12_restTried 6 = .ok (.invokevirtual 165, 3) := by decide +kernel
theorem dX12_restTried_9 : decode cX12_restTried 9 = .ok (.istore_n 2, 1) := by decide +kernel
theorem dX12_restTried_10 : decode cX12_restTried 10 = .ok (.aload_n 0, 1) := by decide +kernel
theorem dX12_restTried_11 : decode cX12_restTried 11 = .ok (.invokevirtual 168, 3) := by decide +kernel
theorem dX12_restTried_14 : decode cX12_restTried 14 = .ok (.iload_n 2, 1) := by decide +kernel
theorem dX12_restTried_15 : decode cX12_restTried 15 = .ok (.ireturn, 1) := by decide +kernel
theorem dX12_on_0 : decode cX12_on 0 = .ok (.iload_n 1, 1) := by decide +kernel
theorem dX12_on_1 : decode cX12_on 1 = .ok (.i2l, 1) := by decide +kernel
theorem dX12_on_2 : decode cX12_on 2 = .ok (.lconst 0, 1) := by decide +kernel
theorem dX12_on_3 : decode cX12_on 3 = .ok (.ldc2_w 116, 3) := by decide +kernel
theorem dX12_on_6 : decode cX12_on 6 = .ok (.invokestatic 61, 3) := by decide +kernel
theorem dX12_on_9 : decode cX12_on 9 = .ok (.ifCond .eq 11, 3) := by decide +kernel
theorem dX12_on_12 : decode cX12_on 12 = .ok (.aload_n 0, 1) := by decide +kernel
theorem dX12_on_13 : decode cX12_on 13 = .ok (.iload_n 1, 1) := by decide +kernel
theorem dX12_on_14 : decode cX12_on 14 = .ok (.invokevirtual 171, 3) := by decide +kernel
theorem dX12_on_17 : decode cX12_on 17 = .ok (.goto 4, 3) := by decide +kernel
theorem dX12_on_20 : decode cX12_on 20 = .ok (.iconst (-1), 1) := by decide +kernel
theorem dX12_on_21 : decode cX12_on 21 = .ok (.ireturn, 1) := by decide +kernel
theorem dX12_when_0 : decode cX12_when 0 = .ok (.aload_n 0, 1) := by decide +kernel
theorem dX12_when_1 : decode cX12_when 1 = .ok (.iload_n 1, 1) := by decide +kernel
theorem dX12_when_2 : decode cX12_when 2 = .ok (.invokevirtual 90, 3) := by decide +kernel
theorem dX12_when_5 : decode cX12_when 5 = .ok (.ifCond .ne 5, 3) := by decide +kernel
theorem dX12_when_8 : decode cX12_when 8 = .ok (.iconst (-1), 1) := by decide +kernel
theorem dX12_when_9 : decode cX12_when 9 = .ok (.ireturn, 1) := by decide +kernel
theorem dX12_when_10 : decode cX12_when 10 = .ok (.aload_n 0, 1) := by decide +kernel
theorem dX12_when_11 : decode cX12_when 11 = .ok (.iload_n 1, 1) := by decide +kernel
theorem dX12_when_12 : decode cX12_when 12 = .ok (.iconst 4, 1) := by decide +kernel
theorem dX12_when_13 : decode cX12_when 13 = .ok (.invokevirtual 83, 3) := by decide +kernel
theorem dX12_when_16 : decode cX12_when 16 = .ok (.iconst 1, 1) := by decide +kernel
theorem dX12_when_17 : decode cX12_when 17 = .ok (.if_icmp .ne 6, 3) := by decide +kernel
theorem dX12_when_20 : decode cX12_when 20 = .ok (.bipush (-3), 2) := by decide +kernel
theorem dX12_when_22 : decode cX12_when 22 = .ok (.ireturn, 1) := by decide +kernel
theorem dX12_when_23 : decode cX12_when 23 = .ok (.aload_n 0, 1) := by decide +kernel
theorem dX12_when_24 : decode cX12_when 24 = .ok (.invokevirtual 162, 3) := by decide +kernel
theorem dX12_when_27 : decode cX12_when 27 = .ok (.aload_n 0, 1) := by decide +kernel
theorem dX12_when_28 : decode cX12_when 28 = .ok (.invokevirtual 118, 3) := by decide +kernel
theorem dX12_when_31 : decode cX12_when 31 = .ok (.ifCond .ne 24, 3) := by decide +kernel
theorem dX12_when_34 : decode cX12_when 34 = .ok (.aload_n 0, 1) := by decide +kernel
theorem dX12_when_35 : decode cX12_when 35 = .ok (.iload_n 1, 1) := by decide +kernel
theorem dX12_when_36 : decode cX12_when 36 = .ok (.iconst 4, 1) := by decide +kernel
theorem dX12_when_37 : decode cX12_when 37 = .ok (.invokevirtual 83, 3) := by decide +kernel
theorem dX12_when_40 : decode cX12_when 40 = .ok (.ifCond .ne 15, 3) := by decide +kernel
theorem dX12_when_43 : decode cX12_when 43 = .ok (.aload_n 0, 1) := by decide +kernel
theorem dX12_when_44 : decode cX12_when 44 = .ok (.aload_n 0, 1) := by decide +kernel
theorem dX12_when_45 : decode cX12_when 45 = .ok (.invokevirtual 156, 3) := by decide +kernel
theorem dX12_when_48 : decode cX12_when 48 = .ok (.invokevirtual 159, 3) := by decide +kernel
theorem dX12_when_51 : decode cX12_when 51 = .ok (.istore_n 2, 1) := by decide +kernel
theorem dX12_when_52 : decode cX12_when 52 = .ok (.goto (-25), 3) := by decide +kernel
theorem dX12_when_55 : decode cX12_when 55 = .ok (.aload_n 0, 1) := by decide +kernel
theorem dX12_when_56 : decode cX12_when 56 = .ok (.iload_n 1, 1) := by decide +kernel
theorem dX12_when_57 : decode cX12_when 57 = .ok (.iconst 4, 1) := by decide +kernel
theorem dX12_when_58 : decode cX12_when 58 = .ok (.invokevirtual 83, 3) := by decide +kernel
theorem dX12_when_61 : decode cX12_when 61 = .ok (.iconst 1, 1) := by decide +kernel
theorem dX12_when_62 : decode cX12_when 62 = .ok (.if_icmp .ne 14, 3) := by decide +kernel
theorem dX12_when_65 : decode cX12_when 65 = .ok (.aload_n 0, 1) := by decide +kernel
theorem dX12_when_66 : decode cX12_when 66 = .ok (.getfield 7, 3) := by decide +kernel
theorem dX12_when_69 : decode cX12_when 69 = .ok (.iconst 3, 1) := by decide +kernel
theorem dX12_when_70 : decode cX12_when 70 = .ok (.iaload, 1) := by decide +kernel
theorem dX12_when_71 : decode cX12_when 71 = .ok (.iconst 1, 1) := by decide +kernel
theorem dX12_when_72 : decode cX12_when 72 = .ok (.isub, 1) := by decide +kernel
theorem dX12_when_73 : decode cX12_when 73 = .ok (.goto 5, 3) := by decide +kernel
theorem dX12_when_76 : decode cX12_when 76 = .ok (.bipush (-3), 2) := by decide +kernel
theorem dX12_when_78 : decode cX12_when 78 = .ok (.istore_n 2, 1) := by decide +kernel
theorem dX12_when_79 : decode cX12_when 79 = .ok (.aload_n 0, 1) := by decide +kernel
theorem dX12_when_80 : decode cX12_when 80 = .ok (.invokevirtual 168, 3) := by decide +kernel
theorem dX12_when_83 : decode cX12_when 83 = .ok (.iload_n 2, 1) := by decide +kernel
theorem dX12_when_84 : decode cX12_when 84 = .ok (.ireturn, 1) := by decide +kernel
theorem dX12_mostFor_0 : decode cX12_mostFor 0 = .ok (.aload_n 0, 1) := by decide +kernel
theorem dX12_mostFor_1 : decode cX12_mostFor 1 = .ok (.getfield 7, 3) := by decide +kernel
theorem dX12_mostFor_4 : decode cX12_mostFor 4 = .ok (.iload_n 1, 1) := by decide +kernel
theorem dX12_mostFor_5 : decode cX12_mostFor 5 = .ok (.iaload, 1) := by decide +kernel
theorem dX12_mostFor_6 : decode cX12_mostFor 6 = .ok (.istore_n 3, 1) := by decide +kernel
theorem dX12_mostFor_7 : decode cX12_mostFor 7 = .ok (.iconst 0, 1) := by decide +kernel
theorem dX12_mostFor_8 : decode cX12_mostFor 8 = .ok (.istore 4, 2) := by decide +kernel
theorem dX12_mostFor_10 : decode cX12_mostFor 10 = .ok (.iconst (-1), 1) := by decide +kernel
theorem dX12_mostFor_11 : decode cX12_mostFor 11 = .ok (.istore 5, 2) := by decide +kernel
theorem dX12_mostFor_13 : decode cX12_mostFor 13 = .ok (.iconst 0, 1) := by decide +kernel
theorem dX12_mostFor_14 : decode cX12_mostFor 14 = .ok (.istore 6, 2) := by decide +kernel
theorem dX12_mostFor_16 : decode cX12_mostFor 16 = .ok (.iload 6, 2) := by decide +kernel
theorem dX12_mostFor_18 : decode cX12_mostFor 18 = .ok (.iload_n 2, 1) := by decide +kernel
theorem dX12_mostFor_19 : decode cX12_mostFor 19 = .ok (.if_icmp .gt 57, 3) := by decide +kernel
theorem dX12_mostFor_22 : decode cX12_mostFor 22 = .ok (.aload_n 0, 1) := by decide +kernel
theorem dX12_mostFor_23 : decode cX12_mostFor 23 = .ok (.getfield 7, 3) := by decide +kernel
theorem dX12_mostFor_26 : decode cX12_mostFor 26 = .ok (.iload_n 1, 1) := by decide +kernel
theorem dX12_mostFor_27 : decode cX12_mostFor 27 = .ok (.iload 6, 2) := by decide +kernel
theorem dX12_mostFor_29 : decode cX12_mostFor 29 = .ok (.iastore, 1) := by decide +kernel
theorem dX12_mostFor_30 : decode cX12_mostFor 30 = .ok (.aload_n 0, 1) := by decide +kernel
theorem dX12_mostFor_31 : decode cX12_mostFor 31 = .ok (.bipush 16, 2) := by decide +kernel
theorem dX12_mostFor_33 : decode cX12_mostFor 33 = .ok (.invokevirtual 171, 3) := by decide +kernel
theorem dX12_mostFor_36 : decode cX12_mostFor 36 = .ok (.istore 7, 2) := by decide +kernel
theorem dX12_mostFor_38 : decode cX12_mostFor 38 = .ok (.iload 7, 2) := by decide +kernel
theorem dX12_mostFor_40 : decode cX12_mostFor 40 = .ok (.iload 5, 2) := by decide +kernel
theorem dX12_mostFor_42 : decode cX12_mostFor 42 = .ok (.if_icmp .le 8, 3) := by decide +kernel
theorem dX12_mostFor_45 : decode cX12_mostFor 45 = .ok (.iload 6, 2) := by decide +kernel
theorem dX12_mostFor_47 : decode cX12_mostFor 47 = .ok (.goto 5, 3) := by decide +kernel
theorem dX12_mostFor_50 : decode cX12_mostFor 50 = .ok (.iload 4, 2) := by decide +kernel
theorem dX12_mostFor_52 : decode cX12_mostFor 52 = .ok (.istore 4, 2) := by decide +kernel
theorem dX12_mostFor_54 : decode cX12_mostFor 54 = .ok (.iload 7, 2) := by decide +kernel
theorem dX12_mostFor_56 : decode cX12_mostFor 56 = .ok (.iload 5, 2) := by decide +kernel
theorem dX12_mostFor_58 : decode cX12_mostFor 58 = .ok (.if_icmp .le 8, 3) := by decide +kernel
theorem dX12_mostFor_61 : decode cX12_mostFor 61 = .ok (.iload 7, 2) := by decide +kernel
theorem dX12_mostFor_63 : decode cX12_mostFor 63 = .ok (.goto 5, 3) := by decide +kernel
theorem dX12_mostFor_66 : decode cX12_mostFor 66 = .ok (.iload 5, 2) := by decide +kernel
theorem dX12_mostFor_68 : decode cX12_mostFor 68 = .ok (.istore 5, 2) := by decide +kernel
theorem dX12_mostFor_70 : decode cX12_mostFor 70 = .ok (.iinc 6 1, 3) := by decide +kernel
theorem dX12_mostFor_73 : decode cX12_mostFor 73 = .ok (.goto (-57), 3) := by decide +kernel
theorem dX12_mostFor_76 : decode cX12_mostFor 76 = .ok (.aload_n 0, 1) := by decide +kernel
theorem dX12_mostFor_77 : decode cX12_mostFor 77 = .ok (.getfield 7, 3) := by decide +kernel
theorem dX12_mostFor_80 : decode cX12_mostFor 80 = .ok (.iload_n 1, 1) := by decide +kernel
theorem dX12_mostFor_81 : decode cX12_mostFor 81 = .ok (.iload_n 3, 1) := by decide +kernel
theorem dX12_mostFor_82 : decode cX12_mostFor 82 = .ok (.iastore, 1) := by decide +kernel
theorem dX12_mostFor_83 : decode cX12_mostFor 83 = .ok (.iload 4, 2) := by decide +kernel
theorem dX12_mostFor_85 : decode cX12_mostFor 85 = .ok (.ireturn, 1) := by decide +kernel
theorem dX12_meshFor_0 : decode cX12_meshFor 0 = .ok (.aload_n 0, 1) := by decide +kernel
theorem dX12_meshFor_1 : decode cX12_meshFor 1 = .ok (.iconst 5, 1) := by decide +kernel
theorem dX12_meshFor_2 : decode cX12_meshFor 2 = .ok (.bipush 9, 2) := by decide +kernel
theorem dX12_meshFor_4 : decode cX12_meshFor 4 = .ok (.invokevirtual 174, 3) := by decide +kernel
theorem dX12_meshFor_7 : decode cX12_meshFor 7 = .ok (.ireturn, 1) := by decide +kernel
theorem dX12_placeFor_0 : decode cX12_placeFor 0 = .ok (.aload_n 0, 1) := by decide +kernel
theorem dX12_placeFor_1 : decode cX12_placeFor 1 = .ok (.iload_n 1, 1) := by decide +kernel
theorem dX12_placeFor_2 : decode cX12_placeFor 2 = .ok (.invokevirtual 90, 3) := by decide +kernel
theorem dX12_placeFor_5 : decode cX12_placeFor 5 = .ok (.ifCond .eq 17, 3) := by decide +kernel
theorem dX12_placeFor_8 : decode cX12_placeFor 8 = .ok (.aload_n 0, 1) := by decide +kernel
theorem dX12_placeFor_9 : decode cX12_placeFor 9 = .ok (.iload_n 1, 1) := by decide +kernel
theorem dX12_placeFor_10 : decode cX12_placeFor 10 = .ok (.iconst 3, 1) := by decide +kernel
theorem dX12_placeFor_11 : decode cX12_placeFor 11 = .ok (.invokestatic 65, 3) := by decide +kernel
theorem dX12_placeFor_14 : decode cX12_placeFor 14 = .ok (.bipush 15, 2) := by decide +kernel
theorem dX12_placeFor_16 : decode cX12_placeFor 16 = .ok (.invokevirtual 174, 3) := by decide +kernel
theorem dX12_placeFor_19 : decode cX12_placeFor 19 = .ok (.goto 4, 3) := by decide +kernel
theorem dX12_placeFor_22 : decode cX12_placeFor 22 = .ok (.iconst (-1), 1) := by decide +kernel
theorem dX12_placeFor_23 : decode cX12_placeFor 23 = .ok (.ireturn, 1) := by decide +kernel
theorem dX12_areAtOdds_0 : decode cX12_areAtOdds 0 = .ok (.aload_n 0, 1) := by decide +kernel
theorem dX12_areAtOdds_1 : decode cX12_areAtOdds 1 = .ok (.iload_n 1, 1) := by decide +kernel
theorem dX12_areAtOdds_2 : decode cX12_areAtOdds 2 = .ok (.iconst 1, 1) := by decide +kernel
theorem dX12_areAtOdds_3 : decode cX12_areAtOdds 3 = .ok (.invokevirtual 83, 3) := by decide +kernel
theorem dX12_areAtOdds_6 : decode cX12_areAtOdds 6 = .ok (.aload_n 0, 1) := by decide +kernel
theorem dX12_areAtOdds_7 : decode cX12_areAtOdds 7 = .ok (.iload_n 2, 1) := by decide +kernel
theorem dX12_areAtOdds_8 : decode cX12_areAtOdds 8 = .ok (.iconst 1, 1) := by decide +kernel
theorem dX12_areAtOdds_9 : decode cX12_areAtOdds 9 = .ok (.invokevirtual 83, 3) := by decide +kernel
theorem dX12_areAtOdds_12 : decode cX12_areAtOdds 12 = .ok (.isub, 1) := by decide +kernel
theorem dX12_areAtOdds_13 : decode cX12_areAtOdds 13 = .ok (.i2l, 1) := by decide +kernel
theorem dX12_areAtOdds_14 : decode cX12_areAtOdds 14 = .ok (.ldc2_w 142, 3) := by decide +kernel
theorem dX12_areAtOdds_17 : decode cX12_areAtOdds 17 = .ok (.lconst 1, 1) := by decide +kernel
theorem dX12_areAtOdds_18 : decode cX12_areAtOdds 18 = .ok (.invokestatic 61, 3) := by decide +kernel
theorem dX12_areAtOdds_21 : decode cX12_areAtOdds 21 = .ok (.ireturn, 1) := by decide +kernel
theorem dX12_quarrels_0 : decode cX12_quarrels 0 = .ok (.iconst 0, 1) := by decide +kernel
theorem dX12_quarrels_1 : decode cX12_quarrels 1 = .ok (.istore_n 1, 1) := by decide +kernel
theorem dX12_quarrels_2 : decode cX12_quarrels 2 = .ok (.iconst 0, 1) := by decide +kernel
theorem dX12_quarrels_3 : decode cX12_quarrels 3 = .ok (.istore_n 2, 1) := by decide +kernel
theorem dX12_quarrels_4 : decode cX12_quarrels 4 = .ok (.iload_n 2, 1) := by decide +kernel
theorem dX12_quarrels_5 : decode cX12_quarrels 5 = .ok (.aload_n 0, 1) := by decide +kernel
theorem dX12_quarrels_6 : decode cX12_quarrels 6 = .ok (.getfield 7, 3) := by decide +kernel
theorem dX12_quarrels_9 : decode cX12_quarrels 9 = .ok (.iconst 0, 1) := by decide +kernel
theorem dX12_quarrels_10 : decode cX12_quarrels 10 = .ok (.iaload, 1) := by decide +kernel
theorem dX12_quarrels_11 : decode cX12_quarrels 11 = .ok (.if_icmp .ge 39, 3) := by decide +kernel
theorem dX12_quarrels_14 : decode cX12_quarrels 14 = .ok (.iconst 0, 1) := by decide +kernel
theorem dX12_quarrels_15 : decode cX12_quarrels 15 = .ok (.istore_n 3, 1) := by decide +kernel
theorem dX12_quarrels_16 : decode cX12_quarrels 16 = .ok (.iload_n 3, 1) := by decide +kernel
theorem dX12_quarrels_17 : decode cX12_quarrels 17 = .ok (.iload_n 2, 1) := by decide +kernel
theorem dX12_quarrels_18 : decode cX12_quarrels 18 = .ok (.if_icmp .ge 26, 3) := by decide +kernel
theorem dX12_quarrels_21 : decode cX12_quarrels 21 = .ok (.iload_n 1, 1) := by decide +kernel
theorem dX12_quarrels_22 : decode cX12_quarrels 22 = .ok (.aload_n 0, 1) := by decide +kernel
theorem dX12_quarrels_23 : decode cX12_quarrels 23 = .ok (.iload_n 2, 1) := by decide +kernel
theorem dX12_quarrels_24 : decode cX12_quarrels 24 = .ok (.iload_n 3, 1) := by decide +kernel
theorem dX12_quarrels_25 : decode cX12_quarrels 25 = .ok (.invokevirtual 177, 3) := by decide +kernel
theorem dX12_quarrels_28 : decode cX12_quarrels 28 = .ok (.ifCond .eq 7, 3) := by decide +kernel
theorem dX12_quarrels_31 : decode cX12_quarrels 31 = .ok (.iconst 1, 1) := by decide +kernel
theorem dX12_quarrels_32 : decode cX12_quarrels 32 = .ok (.goto 4, 3) := by decide +kernel
theorem dX12_quarrels_35 : decode cX12_quarrels 35 = .ok (.iconst 0, 1) := by decide +kernel
theorem dX12_quarrels_36 : decode cX12_quarrels 36 = .ok (.iadd, 1) := by decide +kernel
theorem dX12_quarrels_37 : decode cX12_quarrels 37 = .ok (.istore_n 1, 1) := by decide +kernel
theorem dX12_quarrels_38 : decode cX12_quarrels 38 = .ok (.iinc 3 1, 3) := by decide +kernel
theorem dX12_quarrels_41 : decode cX12_quarrels 41 = .ok (.goto (-25), 3) := by decide +kernel
theorem dX12_quarrels_44 : decode cX12_quarrels 44 = .ok (.iinc 2 1, 3) := by decide +kernel
theorem dX12_quarrels_47 : decode cX12_quarrels 47 = .ok (.goto (-43), 3) := by decide +kernel
theorem dX12_quarrels_50 : decode cX12_quarrels 50 = .ok (.iload_n 1, 1) := by decide +kernel
theorem dX12_quarrels_51 : decode cX12_quarrels 51 = .ok (.ireturn, 1) := by decide +kernel
theorem dX12_isApart_0 : decode cX12_isApart 0 = .ok (.iconst 1, 1) := by decide +kernel
theorem dX12_isApart_1 : decode cX12_isApart 1 = .ok (.istore_n 2, 1) := by decide +kernel
theorem dX12_isApart_2 : decode cX12_isApart 2 = .ok (.iconst 0, 1) := by decide +kernel
theorem dX12_isApart_3 : decode cX12_isApart 3 = .ok (.istore_n 3, 1) := by decide +kernel
theorem dX12_isApart_4 : decode cX12_isApart 4 = .ok (.iload_n 3, 1) := by decide +kernel
theorem dX12_isApart_5 : decode cX12_isApart 5 = .ok (.iload_n 1, 1) := by decide +kernel
theorem dX12_isApart_6 : decode cX12_isApart 6 = .ok (.if_icmp .ge 43, 3) := by decide +kernel
theorem dX12_isApart_9 : decode cX12_isApart 9 = .ok (.iload_n 2, 1) := by decide +kernel
theorem dX12_isApart_10 : decode cX12_isApart 10 = .ok (.ifCond .eq 31, 3) := by decide +kernel
theorem dX12_isApart_13 : decode cX12_isApart 13 = .ok (.aload_n 0, 1) := by decide +kernel
theorem dX12_isApart_14 : decode cX12_isApart 14 = .ok (.getfield 22, 3) := by decide +kernel
theorem dX12_isApart_17 : decode cX12_isApart 17 = .ok (.iload_n 3, 1) := by decide +kernel
theorem dX12_isApart_18 : decode cX12_isApart 18 = .ok (.iaload, 1) := by decide +kernel
theorem dX12_isApart_19 : decode cX12_isApart 19 = .ok (.aload_n 0, 1) := by decide +kernel
theorem dX12_isApart_20 : decode cX12_isApart 20 = .ok (.getfield 22, 3) := by decide +kernel
theorem dX12_isApart_23 : decode cX12_isApart 23 = .ok (.iload_n 1, 1) := by decide +kernel
theorem dX12_isApart_24 : decode cX12_isApart 24 = .ok (.iaload, 1) := by decide +kernel
theorem dX12_isApart_25 : decode cX12_isApart 25 = .ok (.if_icmp .ne 12, 3) := by decide +kernel
theorem dX12_isApart_28 : decode cX12_isApart 28 = .ok (.aload_n 0, 1) := by decide +kernel
theorem dX12_isApart_29 : decode cX12_isApart 29 = .ok (.iload_n 3, 1) := by decide +kernel
theorem dX12_isApart_30 : decode cX12_isApart 30 = .ok (.iload_n 1, 1) := by decide +kernel
theorem dX12_isApart_31 : decode cX12_isApart 31 = .ok (.invokevirtual 177, 3) := by decide +kernel
theorem dX12_isApart_34 : decode cX12_isApart 34 = .ok (.ifCond .ne 7, 3) := by decide +kernel
theorem dX12_isApart_37 : decode cX12_isApart 37 = .ok (.iconst 1, 1) := by decide +kernel
theorem dX12_isApart_38 : decode cX12_isApart 38 = .ok (.goto 4, 3) := by decide +kernel
theorem dX12_isApart_41 : decode cX12_isApart 41 = .ok (.iconst 0, 1) := by decide +kernel
theorem dX12_isApart_42 : decode cX12_isApart 42 = .ok (.istore_n 2, 1) := by decide +kernel
theorem dX12_isApart_43 : decode cX12_isApart 43 = .ok (.iinc 3 1, 3) := by decide +kernel
theorem dX12_isApart_46 : decode cX12_isApart 46 = .ok (.goto (-42), 3) := by decide +kernel
theorem dX12_isApart_49 : decode cX12_isApart 49 = .ok (.iload_n 2, 1) := by decide +kernel
theorem dX12_isApart_50 : decode cX12_isApart 50 = .ok (.ireturn, 1) := by decide +kernel
theorem dX12_areIn_0 : decode cX12_areIn 0 = .ok (.iload_n 1, 1) := by decide +kernel
theorem dX12_areIn_1 : decode cX12_areIn 1 = .ok (.aload_n 0, 1) := by decide +kernel
theorem dX12_areIn_2 : decode cX12_areIn 2 = .ok (.getfield 7, 3) := by decide +kernel
theorem dX12_areIn_5 : decode cX12_areIn 5 = .ok (.iconst 0, 1) := by decide +kernel
theorem dX12_areIn_6 : decode cX12_areIn 6 = .ok (.iaload, 1) := by decide +kernel
theorem dX12_areIn_7 : decode cX12_areIn 7 = .ok (.if_icmp .ne 5, 3) := by decide +kernel
theorem dX12_areIn_10 : decode cX12_areIn 10 = .ok (.iconst 1, 1) := by decide +kernel
theorem dX12_areIn_11 : decode cX12_areIn 11 = .ok (.ireturn, 1) := by decide +kernel
theorem dX12_areIn_12 : decode cX12_areIn 12 = .ok (.iconst 0, 1) := by decide +kernel
theorem dX12_areIn_13 : decode cX12_areIn 13 = .ok (.istore_n 3, 1) := by decide +kernel
theorem dX12_areIn_14 : decode cX12_areIn 14 = .ok (.iload_n 3, 1) := by decide +kernel
theorem dX12_areIn_15 : decode cX12_areIn 15 = .ok (.iload_n 2, 1) := by decide +kernel
theorem dX12_areIn_16 : decode cX12_areIn 16 = .ok (.if_icmp .ge 37, 3) := by decide +kernel
theorem dX12_areIn_19 : decode cX12_areIn 19 = .ok (.aload_n 0, 1) := by decide +kernel
theorem dX12_areIn_20 : decode cX12_areIn 20 = .ok (.getfield 22, 3) := by decide +kernel
theorem dX12_areIn_23 : decode cX12_areIn 23 = .ok (.iload_n 1, 1) := by decide +kernel
theorem dX12_areIn_24 : decode cX12_areIn 24 = .ok (.iload_n 3, 1) := by decide +kernel
theorem dX12_areIn_25 : decode cX12_areIn 25 = .ok (.iastore, 1) := by decide +kernel
theorem dX12_areIn_26 : decode cX12_areIn 26 = .ok (.aload_n 0, 1) := by decide +kernel
theorem dX12_areIn_27 : decode cX12_areIn 27 = .ok (.iload_n 1, 1) := by decide +kernel
theorem dX12_areIn_28 : decode cX12_areIn 28 = .ok (.invokevirtual 180, 3) := by decide +kernel
theorem dX12_areIn_31 : decode cX12_areIn 31 = .ok (.ifCond .eq 16, 3) := by decide +kernel
theorem dX12_areIn_34 : decode cX12_areIn 34 = .ok (.aload_n 0, 1) := by decide +kernel
theorem dX12_areIn_35 : decode cX12_areIn 35 = .ok (.iload_n 1, 1) := by decide +kernel
theorem dX12_areIn_36 : decode cX12_areIn 36 = .ok (.iconst 1, 1) := by decide +kernel
theorem dX12_areIn_37 : decode cX12_areIn 37 = .ok (.iadd, 1) := by decide +kernel
theorem dX12_areIn_38 : decode cX12_areIn 38 = .ok (.iload_n 2, 1) := by decide +kernel
theorem dX12_areIn_39 : decode cX12_areIn 39 = .ok (.invokevirtual 183, 3) := by decide +kernel
theorem dX12_areIn_42 : decode cX12_areIn 42 = .ok (.ifCond .eq 5, 3) := by decide +kernel
theorem dX12_areIn_45 : decode cX12_areIn 45 = .ok (.iconst 1, 1) := by decide +kernel
theorem dX12_areIn_46 : decode cX12_areIn 46 = .ok (.ireturn, 1) := by decide +kernel
theorem dX12_areIn_47 : decode cX12_areIn 47 = .ok (.iinc 3 1, 3) := by decide +kernel
theorem dX12_areIn_50 : decode cX12_areIn 50 = .ok (.goto (-36), 3) := by decide +kernel
theorem dX12_areIn_53 : decode cX12_areIn 53 = .ok (.iconst 0, 1) := by decide +kernel
theorem dX12_areIn_54 : decode cX12_areIn 54 = .ok (.ireturn, 1) := by decide +kernel
theorem dX12_apart_0 : decode cX12_apart 0 = .ok (.iload_n 1, 1) := by decide +kernel
theorem dX12_apart_1 : decode cX12_apart 1 = .ok (.iconst (-1), 1) := by decide +kernel
theorem dX12_apart_2 : decode cX12_apart 2 = .ok (.if_icmp .eq 13, 3) := by decide +kernel
theorem dX12_apart_5 : decode cX12_apart 5 = .ok (.aload_n 0, 1) := by decide +kernel
theorem dX12_apart_6 : decode cX12_apart 6 = .ok (.iload_n 1, 1) := by decide +kernel
theorem dX12_apart_7 : decode cX12_apart 7 = .ok (.invokevirtual 90, 3) := by decide +kernel
theorem dX12_apart_10 : decode cX12_apart 10 = .ok (.ifCond .ne 5, 3) := by decide +kernel
theorem dX12_apart_13 : decode cX12_apart 13 = .ok (.iconst (-1), 1) := by decide +kernel
theorem dX12_apart_14 : decode cX12_apart 14 = .ok (.ireturn, 1) := by decide +kernel
theorem dX12_apart_15 : decode cX12_apart 15 = .ok (.iconst 0, 1) := by decide +kernel
theorem dX12_apart_16 : decode cX12_apart 16 = .ok (.istore_n 2, 1) := by decide +kernel
theorem dX12_apart_17 : decode cX12_apart 17 = .ok (.aload_n 0, 1) := by decide +kernel
theorem dX12_apart_18 : decode cX12_apart 18 = .ok (.iconst 0, 1) := by decide +kernel
theorem dX12_apart_19 : decode cX12_apart 19 = .ok (.iload_n 2, 1) := by decide +kernel
theorem dX12_apart_20 : decode cX12_apart 20 = .ok (.invokevirtual 183, 3) := by decide +kernel
theorem dX12_apart_23 : decode cX12_apart 23 = .ok (.ifCond .ne 9, 3) := by decide +kernel
theorem dX12_apart_26 : decode cX12_apart 26 = .ok (.iinc 2 1, 3) := by decide +kernel
theorem dX12_apart_29 : decode cX12_apart 29 = .ok (.goto (-12), 3) := by decide +kernel
theorem dX12_apart_32 : decode cX12_apart 32 = .ok (.iload_n 1, 1) := by decide +kernel
theorem dX12_apart_33 : decode cX12_apart 33 = .ok (.iconst (-1), 1) := by decide +kernel
theorem dX12_apart_34 : decode cX12_apart 34 = .ok (.if_icmp .ne 7, 3) := by decide +kernel
theorem dX12_apart_37 : decode cX12_apart 37 = .ok (.iload_n 2, 1) := by decide +kernel
theorem dX12_apart_38 : decode cX12_apart 38 = .ok (.goto 9, 3) := by decide +kernel
theorem dX12_apart_41 : decode cX12_apart 41 = .ok (.aload_n 0, 1) := by decide +kernel
theorem dX12_apart_42 : decode cX12_apart 42 = .ok (.getfield 22, 3) := by decide +kernel
theorem dX12_apart_45 : decode cX12_apart 45 = .ok (.iload_n 1, 1) := by decide +kernel
theorem dX12_apart_46 : decode cX12_apart 46 = .ok (.iaload, 1) := by decide +kernel
theorem dX12_apart_47 : decode cX12_apart 47 = .ok (.ireturn, 1) := by decide +kernel
theorem dX12_ones_0 : decode cX12_ones 0 = .ok (.iconst 0, 1) := by decide +kernel
theorem dX12_ones_1 : decode cX12_ones 1 = .ok (.istore_n 1, 1) := by decide +kernel
theorem dX12_ones_2 : decode cX12_ones 2 = .ok (.iload_n 0, 1) := by decide +kernel
theorem dX12_ones_3 : decode cX12_ones 3 = .ok (.istore_n 2, 1) := by decide +kernel
theorem dX12_ones_4 : decode cX12_ones 4 = .ok (.iload_n 2, 1) := by decide +kernel
theorem dX12_ones_5 : decode cX12_ones 5 = .ok (.ifCond .eq 15, 3) := by decide +kernel
theorem dX12_ones_8 : decode cX12_ones 8 = .ok (.iinc 1 1, 3) := by decide +kernel
theorem dX12_ones_11 : decode cX12_ones 11 = .ok (.iload_n 2, 1) := by decide +kernel
theorem dX12_ones_12 : decode cX12_ones 12 = .ok (.iload_n 2, 1) := by decide +kernel
theorem dX12_ones_13 : decode cX12_ones 13 = .ok (.iconst 1, 1) := by decide +kernel
theorem dX12_ones_14 : decode cX12_ones 14 = .ok (.isub, 1) := by decide +kernel
theorem dX12_ones_15 : decode cX12_ones 15 = .ok (.iand, 1) := by decide +kernel
theorem dX12_ones_16 : decode cX12_ones 16 = .ok (.istore_n 2, 1) := by decide +kernel
theorem dX12_ones_17 : decode cX12_ones 17 = .ok (.goto (-13), 3) := by decide +kernel
theorem dX12_ones_20 : decode cX12_ones 20 = .ok (.iload_n 1, 1) := by decide +kernel
theorem dX12_ones_21 : decode cX12_ones 21 = .ok (.ireturn, 1) := by decide +kernel
theorem dX12_isPeace_0 : decode cX12_isPeace 0 = .ok (.iconst 1, 1) := by decide +kernel
theorem dX12_isPeace_1 : decode cX12_isPeace 1 = .ok (.istore_n 2, 1) := by decide +kernel
theorem dX12_isPeace_2 : decode cX12_isPeace 2 = .ok (.iconst 0, 1) := by decide +kernel
theorem dX12_isPeace_3 : decode cX12_isPeace 3 = .ok (.istore_n 3, 1) := by decide +kernel
theorem dX12_isPeace_4 : decode cX12_isPeace 4 = .ok (.iload_n 3, 1) := by decide +kernel
theorem dX12_isPeace_5 : decode cX12_isPeace 5 = .ok (.aload_n 0, 1) := by decide +kernel
theorem dX12_isPeace_6 : decode cX12_isPeace 6 = .ok (.getfield 7, 3) := by decide +kernel
theorem dX12_isPeace_9 : decode cX12_isPeace 9 = .ok (.iconst 0, 1) := by decide +kernel
theorem dX12_isPeace_10 : decode cX12_isPeace 10 = .ok (.iaload, 1) := by decide +kernel
theorem dX12_isPeace_11 : decode cX12_isPeace 11 = .ok (.if_icmp .ge 57, 3) := by decide +kernel
theorem dX12_isPeace_14 : decode cX12_isPeace 14 = .ok (.iconst 0, 1) := by decide +kernel
theorem dX12_isPeace_15 : decode cX12_isPeace 15 = .ok (.istore 4, 2) := by decide +kernel
theorem dX12_isPeace_17 : decode cX12_isPeace 17 = .ok (.iload 4, 2) := by decide +kernel
theorem dX12_isPeace_19 : decode cX12_isPeace 19 = .ok (.iload_n 3, 1) := by decide +kernel
theorem dX12_isPeace_20 : decode cX12_isPeace 20 = .ok (.if_icmp .ge 42, 3) := by decide +kernel
theorem dX12_isPeace_23 : decode cX12_isPeace 23 = .ok (.iload_n 2, 1) := by decide +kernel
theorem dX12_isPeace_24 : decode cX12_isPeace 24 = .ok (.ifCond .eq 30, 3) := by decide +kernel
theorem dX12_isPeace_27 : decode cX12_isPeace 27 = .ok (.iload_n 1, 1) := by decide +kernel
theorem dX12_isPeace_28 : decode cX12_isPeace 28 = .ok (.iload_n 3, 1) := by decide +kernel
theorem dX12_isPeace_29 : decode cX12_isPeace 29 = .ok (.ishr, 1) := by decide +kernel
theorem dX12_isPeace_30 : decode cX12_isPeace 30 = .ok (.iload_n 1, 1) := by decide +kernel
theorem dX12_isPeace_31 : decode cX12_isPeace 31 = .ok (.iload 4, 2) := by decide +kernel
theorem dX12_isPeace_33 : decode cX12_isPeace 33 = .ok (.ishr, 1) := by decide +kernel
theorem dX12_isPeace_34 : decode cX12_isPeace 34 = .ok (.iand, 1) := by decide +kernel
theorem dX12_isPeace_35 : decode cX12_isPeace 35 = .ok (.iconst 1, 1) := by decide +kernel
theorem dX12_isPeace_36 : decode cX12_isPeace 36 = .ok (.iand, 1) := by decide +kernel
theorem dX12_isPeace_37 : decode cX12_isPeace 37 = .ok (.ifCond .eq 13, 3) := by decide +kernel
theorem dX12_isPeace_40 : decode cX12_isPeace 40 = .ok (.aload_n 0, 1) := by decide +kernel
theorem dX12_isPeace_41 : decode cX12_isPeace 41 = .ok (.iload_n 3, 1) := by decide +kernel
theorem dX12_isPeace_42 : decode cX12_isPeace 42 = .ok (.iload 4, 2) := by decide +kernel
theorem dX12_isPeace_44 : decode cX12_isPeace 44 = .ok (.invokevirtual 177, 3) := by decide +kernel
theorem dX12_isPeace_47 : decode cX12_isPeace 47 = .ok (.ifCond .ne 7, 3) := by decide +kernel
theorem dX12_isPeace_50 : decode cX12_isPeace 50 = .ok (.iconst 1, 1) := by decide +kernel
theorem dX12_isPeace_51 : decode cX12_isPeace 51 = .ok (.goto 4, 3) := by decide +kernel
theorem dX12_isPeace_54 : decode cX12_isPeace 54 = .ok (.iconst 0, 1) := by decide +kernel
theorem dX12_isPeace_55 : decode cX12_isPeace 55 = .ok (.istore_n 2, 1) := by decide +kernel
theorem dX12_isPeace_56 : decode cX12_isPeace 56 = .ok (.iinc 4 1, 3) := by decide +kernel
theorem dX12_isPeace_59 : decode cX12_isPeace 59 = .ok (.goto (-42), 3) := by decide +kernel
theorem dX12_isPeace_62 : decode cX12_isPeace 62 = .ok (.iinc 3 1, 3) := by decide +kernel
theorem dX12_isPeace_65 : decode cX12_isPeace 65 = .ok (.goto (-61), 3) := by decide +kernel
theorem dX12_isPeace_68 : decode cX12_isPeace 68 = .ok (.iload_n 2, 1) := by decide +kernel
theorem dX12_isPeace_69 : decode cX12_isPeace 69 = .ok (.ireturn, 1) := by decide +kernel
theorem dX12_strengthOf_0 : decode cX12_strengthOf 0 = .ok (.iconst 0, 1) := by decide +kernel
theorem dX12_strengthOf_1 : decode cX12_strengthOf 1 = .ok (.istore_n 2, 1) := by decide +kernel
theorem dX12_strengthOf_2 : decode cX12_strengthOf 2 = .ok (.iconst 0, 1) := by decide +kernel
theorem dX12_strengthOf_3 : decode cX12_strengthOf 3 = .ok (.istore_n 3, 1) := by decide +kernel
theorem dX12_strengthOf_4 : decode cX12_strengthOf 4 = .ok (.iload_n 3, 1) := by decide +kernel
theorem dX12_strengthOf_5 : decode cX12_strengthOf 5 = .ok (.aload_n 0, 1) := by decide +kernel
theorem dX12_strengthOf_6 : decode cX12_strengthOf 6 = .ok (.getfield 7, 3) := by decide +kernel
theorem dX12_strengthOf_9 : decode cX12_strengthOf 9 = .ok (.iconst 0, 1) := by decide +kernel
theorem dX12_strengthOf_10 : decode cX12_strengthOf 10 = .ok (.iaload, 1) := by decide +kernel
theorem dX12_strengthOf_11 : decode cX12_strengthOf 11 = .ok (.if_icmp .ge 31, 3) := by decide +kernel
theorem dX12_strengthOf_14 : decode cX12_strengthOf 14 = .ok (.iload_n 2, 1) := by decide +kernel
theorem dX12_strengthOf_15 : decode cX12_strengthOf 15 = .ok (.iload_n 1, 1) := by decide +kernel
theorem dX12_strengthOf_16 : decode cX12_strengthOf 16 = .ok (.iload_n 3, 1) := by decide +kernel
theorem dX12_strengthOf_17 : decode cX12_strengthOf 17 = .ok (.ishr, 1) := by decide +kernel
theorem dX12_strengthOf_18 : decode cX12_strengthOf 18 = .ok (.iconst 1, 1) := by decide +kernel
theorem dX12_strengthOf_19 : decode cX12_strengthOf 19 = .ok (.iand, 1) := by decide +kernel
theorem dX12_strengthOf_20 : decode cX12_strengthOf 20 = .ok (.iconst 1, 1) := by decide +kernel
theorem dX12_strengthOf_21 : decode cX12_strengthOf 21 = .ok (.if_icmp .ne 12, 3) := by decide +kernel
theorem dX12_strengthOf_24 : decode cX12_strengthOf 24 = .ok (.aload_n 0, 1) := by decide +kernel
theorem dX12_strengthOf_25 : decode cX12_strengthOf 25 = .ok (.iload_n 3, 1) := by decide +kernel
theorem dX12_strengthOf_26 : decode cX12_strengthOf 26 = .ok (.iconst 2, 1) := by decide +kernel
theorem dX12_strengthOf_27 : decode cX12_strengthOf 27 = .ok (.invokevirtual 83, 3) := by decide +kernel
theorem dX12_strengthOf_30 : decode cX12_strengthOf 30 = .ok (.goto 4, 3) := by decide +kernel
theorem dX12_strengthOf_33 : decode cX12_strengthOf 33 = .ok (.iconst 0, 1) := by decide +kernel
theorem dX12_strengthOf_34 : decode cX12_strengthOf 34 = .ok (.iadd, 1) := by decide +kernel
theorem dX12_strengthOf_35 : decode cX12_strengthOf 35 = .ok (.istore_n 2, 1) := by decide +kernel
theorem dX12_strengthOf_36 : decode cX12_strengthOf 36 = .ok (.iinc 3 1, 3) := by decide +kernel
theorem dX12_strengthOf_39 : decode cX12_strengthOf 39 = .ok (.goto (-35), 3) := by decide +kernel
theorem dX12_strengthOf_42 : decode cX12_strengthOf 42 = .ok (.iload_n 2, 1) := by decide +kernel
theorem dX12_strengthOf_43 : decode cX12_strengthOf 43 = .ok (.ireturn, 1) := by decide +kernel
theorem dX12_choir_0 : decode cX12_choir 0 = .ok (.iload_n 1, 1) := by decide +kernel
theorem dX12_choir_1 : decode cX12_choir 1 = .ok (.i2l, 1) := by decide +kernel
theorem dX12_choir_2 : decode cX12_choir 2 = .ok (.lconst 0, 1) := by decide +kernel
theorem dX12_choir_3 : decode cX12_choir 3 = .ok (.lconst 1, 1) := by decide +kernel
theorem dX12_choir_4 : decode cX12_choir 4 = .ok (.invokestatic 61, 3) := by decide +kernel
theorem dX12_choir_7 : decode cX12_choir 7 = .ok (.ifCond .ne 5, 3) := by decide +kernel
theorem dX12_choir_10 : decode cX12_choir 10 = .ok (.iconst (-1), 1) := by decide +kernel
theorem dX12_choir_11 : decode cX12_choir 11 = .ok (.ireturn, 1) := by decide +kernel
theorem dX12_choir_12 : decode cX12_choir 12 = .ok (.iconst 0, 1) := by decide +kernel
theorem dX12_choir_13 : decode cX12_choir 13 = .ok (.istore_n 2, 1) := by decide +kernel
theorem dX12_choir_14 : decode cX12_choir 14 = .ok (.iconst 1, 1) := by decide +kernel
theorem dX12_choir_15 : decode cX12_choir 15 = .ok (.istore_n 3, 1) := by decide +kernel
theorem dX12_choir_16 : decode cX12_choir 16 = .ok (.iload_n 3, 1) := by decide +kernel
theorem dX12_choir_17 : decode cX12_choir 17 = .ok (.iconst 1, 1) := by decide +kernel
theorem dX12_choir_18 : decode cX12_choir 18 = .ok (.aload_n 0, 1) := by decide +kernel
theorem dX12_choir_19 : decode cX12_choir 19 = .ok (.getfield 7, 3) := by decide +kernel
theorem dX12_choir_22 : decode cX12_choir 22 = .ok (.iconst 0, 1) := by decide +kernel
theorem dX12_choir_23 : decode cX12_choir 23 = .ok (.iaload, 1) := by decide +kernel
theorem dX12_choir_24 : decode cX12_choir 24 = .ok (.ishl, 1) := by decide +kernel
theorem dX12_choir_25 : decode cX12_choir 25 = .ok (.if_icmp .ge 36, 3) := by decide +kernel
theorem dX12_choir_28 : decode cX12_choir 28 = .ok (.aload_n 0, 1) := by decide +kernel
theorem dX12_choir_29 : decode cX12_choir 29 = .ok (.iload_n 3, 1) := by decide +kernel
theorem dX12_choir_30 : decode cX12_choir 30 = .ok (.invokevirtual 186, 3) := by decide +kernel
theorem dX12_choir_33 : decode cX12_choir 33 = .ok (.ifCond .eq 20, 3) := by decide +kernel
theorem dX12_choir_36 : decode cX12_choir 36 = .ok (.aload_n 0, 1) := by decide +kernel
theorem dX12_choir_37 : decode cX12_choir 37 = .ok (.iload_n 3, 1) := by decide +kernel
theorem dX12_choir_38 : decode cX12_choir 38 = .ok (.invokevirtual 189, 3) := by decide +kernel
theorem dX12_choir_41 : decode cX12_choir 41 = .ok (.aload_n 0, 1) := by decide +kernel
theorem dX12_choir_42 : decode cX12_choir 42 = .ok (.iload_n 2, 1) := by decide +kernel
theorem dX12_choir_43 : decode cX12_choir 43 = .ok (.invokevirtual 189, 3) := by decide +kernel
theorem dX12_choir_46 : decode cX12_choir 46 = .ok (.if_icmp .le 7, 3) := by decide +kernel
theorem dX12_choir_49 : decode cX12_choir 49 = .ok (.iload_n 3, 1) := by decide +kernel
theorem dX12_choir_50 : decode cX12_choir 50 = .ok (.goto 4, 3) := by decide +kernel
theorem dX12_choir_53 : decode cX12_choir 53 = .ok (.iload_n 2, 1) := by decide +kernel
theorem dX12_choir_54 : decode cX12_choir 54 = .ok (.istore_n 2, 1) := by decide +kernel
theorem dX12_choir_55 : decode cX12_choir 55 = .ok (.iinc 3 1, 3) := by decide +kernel
theorem dX12_choir_58 : decode cX12_choir 58 = .ok (.goto (-42), 3) := by decide +kernel
theorem dX12_choir_61 : decode cX12_choir 61 = .ok (.iload_n 1, 1) := by decide +kernel
theorem dX12_choir_62 : decode cX12_choir 62 = .ok (.ifCond .ne 7, 3) := by decide +kernel
theorem dX12_choir_65 : decode cX12_choir 65 = .ok (.iload_n 2, 1) := by decide +kernel
theorem dX12_choir_66 : decode cX12_choir 66 = .ok (.goto 8, 3) := by decide +kernel
theorem dX12_choir_69 : decode cX12_choir 69 = .ok (.aload_n 0, 1) := by decide +kernel
theorem dX12_choir_70 : decode cX12_choir 70 = .ok (.iload_n 2, 1) := by decide +kernel
theorem dX12_choir_71 : decode cX12_choir 71 = .ok (.invokevirtual 189, 3) := by decide +kernel
theorem dX12_choir_74 : decode cX12_choir 74 = .ok (.ireturn, 1) := by decide +kernel
theorem dX12_saves_0 : decode cX12_saves 0 = .ok (.iconst 0, 1) := by decide +kernel
theorem dX12_saves_1 : decode cX12_saves 1 = .ok (.istore_n 2, 1) := by decide +kernel
theorem dX12_saves_2 : decode cX12_saves 2 = .ok (.iload_n 2, 1) := by decide +kernel
theorem dX12_saves_3 : decode cX12_saves 3 = .ok (.bipush 6, 2) := by decide +kernel
theorem dX12_saves_5 : decode cX12_saves 5 = .ok (.if_icmp .ge 46, 3) := by decide +kernel
theorem dX12_saves_8 : decode cX12_saves 8 = .ok (.aload_n 0, 1) := by decide +kernel
theorem dX12_saves_9 : decode cX12_saves 9 = .ok (.getfield 25, 3) := by decide +kernel
theorem dX12_saves_12 : decode cX12_saves 12 = .ok (.bipush 14, 2) := by decide +kernel
theorem dX12_saves_14 : decode cX12_saves 14 = .ok (.iload_n 1, 1) := by decide +kernel
theorem dX12_saves_15 : decode cX12_saves 15 = .ok (.imul, 1) := by decide +kernel
theorem dX12_saves_16 : decode cX12_saves 16 = .ok (.iload_n 2, 1) := by decide +kernel
theorem dX12_saves_17 : decode cX12_saves 17 = .ok (.iadd, 1) := by decide +kernel
theorem dX12_saves_18 : decode cX12_saves 18 = .ok (.aload_n 0, 1) := by decide +kernel
theorem dX12_saves_19 : decode cX12_saves 19 = .ok (.iload_n 2, 1) := by decide +kernel
theorem dX12_saves_20 : decode cX12_saves 20 = .ok (.iconst 3, 1) := by decide +kernel
theorem dX12_saves_21 : decode cX12_saves 21 = .ok (.invokevirtual 83, 3) := by decide +kernel
theorem dX12_saves_24 : decode cX12_saves 24 = .ok (.iastore, 1) := by decide +kernel
theorem dX12_saves_25 : decode cX12_saves 25 = .ok (.aload_n 0, 1) := by decide +kernel
theorem dX12_saves_26 : decode cX12_saves 26 = .ok (.getfield 25, 3) := by decide +kernel
theorem dX12_saves_29 : decode cX12_saves 29 = .ok (.bipush 14, 2) := by decide +kernel
theorem dX12_saves_31 : decode cX12_saves 31 = .ok (.iload_n 1, 1) := by decide +kernel
theorem dX12_saves_32 : decode cX12_saves 32 = .ok (.imul, 1) := by decide +kernel
theorem dX12_saves_33 : decode cX12_saves 33 = .ok (.bipush 6, 2) := by decide +kernel
theorem dX12_saves_35 : decode cX12_saves 35 = .ok (.iadd, 1) := by decide +kernel
theorem dX12_saves_36 : decode cX12_saves 36 = .ok (.iload_n 2, 1) := by decide +kernel
theorem dX12_saves_37 : decode cX12_saves 37 = .ok (.iadd, 1) := by decide +kernel
theorem dX12_saves_38 : decode cX12_saves 38 = .ok (.aload_n 0, 1) := by decide +kernel
theorem dX12_saves_39 : decode cX12_saves 39 = .ok (.iload_n 2, 1) := by decide +kernel
theorem dX12_saves_40 : decode cX12_saves 40 = .ok (.iconst 4, 1) := by decide +kernel
theorem dX12_saves_41 : decode cX12_saves 41 = .ok (.invokevirtual 83, 3) := by decide +kernel
theorem dX12_saves_44 : decode cX12_saves 44 = .ok (.iastore, 1) := by decide +kernel
theorem dX12_saves_45 : decode cX12_saves 45 = .ok (.iinc 2 1, 3) := by decide +kernel
theorem dX12_saves_48 : decode cX12_saves 48 = .ok (.goto (-46), 3) := by decide +kernel
theorem dX12_saves_51 : decode cX12_saves 51 = .ok (.aload_n 0, 1) := by decide +kernel
theorem dX12_saves_52 : decode cX12_saves 52 = .ok (.getfield 25, 3) := by decide +kernel
theorem dX12_saves_55 : decode cX12_saves 55 = .ok (.bipush 14, 2) := by decide +kernel
theorem dX12_saves_57 : decode cX12_saves 57 = .ok (.iload_n 1, 1) := by decide +kernel
theorem dX12_saves_58 : decode cX12_saves 58 = .ok (.imul, 1) := by decide +kernel
theorem dX12_saves_59 : decode cX12_saves 59 = .ok (.bipush 12, 2) := by decide +kernel
theorem dX12_saves_61 : decode cX12_saves 61 = .ok (.iadd, 1) := by decide +kernel
theorem dX12_saves_62 : decode cX12_saves 62 = .ok (.aload_n 0, 1) := by decide +kernel
theorem dX12_saves_63 : decode cX12_saves 63 = .ok (.getfield 7, 3) := by decide +kernel
theorem dX12_saves_66 : decode cX12_saves 66 = .ok (.iconst 3, 1) := by decide +kernel
theorem dX12_saves_67 : decode cX12_saves 67 = .ok (.iaload, 1) := by decide +kernel
theorem dX12_saves_68 : decode cX12_saves 68 = .ok (.iastore, 1) := by decide +kernel
theorem dX12_saves_69 : decode cX12_saves 69 = .ok (.aload_n 0, 1) := by decide +kernel
theorem dX12_saves_70 : decode cX12_saves 70 = .ok (.getfield 25, 3) := by decide +kernel
theorem dX12_saves_73 : decode cX12_saves 73 = .ok (.bipush 14, 2) := by decide +kernel
theorem dX12_saves_75 : decode cX12_saves 75 = .ok (.iload_n 1, 1) := by decide +kernel
theorem dX12_saves_76 : decode cX12_saves 76 = .ok (.imul, 1) := by decide +kernel
theorem dX12_saves_77 : decode cX12_saves 77 = .ok (.bipush 13, 2) := by decide +kernel
theorem dX12_saves_79 : decode cX12_saves 79 = .ok (.iadd, 1) := by decide +kernel
theorem dX12_saves_80 : decode cX12_saves 80 = .ok (.aload_n 0, 1) := by decide +kernel
theorem dX12_saves_81 : decode cX12_saves 81 = .ok (.getfield 7, 3) := by decide +kernel
theorem dX12_saves_84 : decode cX12_saves 84 = .ok (.iconst 4, 1) := by decide +kernel
theorem dX12_saves_85 : decode cX12_saves 85 = .ok (.iaload, 1) := by decide +kernel
theorem dX12_saves_86 : decode cX12_saves 86 = .ok (.iastore, 1) := by decide +kernel
theorem dX12_saves_87 : decode cX12_saves 87 = .ok (.return_, 1) := by decide +kernel
theorem dX12_takesBack_0 : decode cX12_takesBack 0 = .ok (.iconst 0, 1) := by decide +kernel
theorem dX12_takesBack_1 : decode cX12_takesBack 1 = .ok (.istore_n 2, 1) := by decide +kernel
theorem dX12_takesBack_2 : decode cX12_takesBack 2 = .ok (.iload_n 2, 1) := by decide +kernel
theorem dX12_takesBack_3 : decode cX12_takesBack 3 = .ok (.bipush 6, 2) := by decide +kernel
theorem dX12_takesBack_5 : decode cX12_takesBack 5 = .ok (.if_icmp .ge 54, 3) := by decide +kernel
theorem dX12_takesBack_8 : decode cX12_takesBack 8 = .ok (.aload_n 0, 1) := by decide +kernel
theorem dX12_takesBack_9 : decode cX12_takesBack 9 = .ok (.getfield 7, 3) := by decide +kernel
theorem dX12_takesBack_12 : decode cX12_takesBack 12 = .ok (.iload_n 2, 1) := by decide +kernel
theorem dX12_takesBack_13 : decode cX12_takesBack 13 = .ok (.iconst 3, 1) := by decide +kernel
theorem dX12_takesBack_14 : decode cX12_takesBack 14 = .ok (.invokestatic 65, 3) := by decide +kernel
theorem dX12_takesBack_17 : decode cX12_takesBack 17 = .ok (.aload_n 0, 1) := by decide +kernel
theorem dX12_takesBack_18 : decode cX12_takesBack 18 = .ok (.getfield 25, 3) := by decide +kernel
theorem dX12_takesBack_21 : decode cX12_takesBack 21 = .ok (.bipush 14, 2) := by decide +kernel
theorem dX12_takesBack_23 : decode cX12_takesBack 23 = .ok (.iload_n 1, 1) := by decide +kernel
theorem dX12_takesBack_24 : decode cX12_takesBack 24 = .ok (.imul, 1) := by decide +kernel
theorem dX12_takesBack_25 : decode cX12_takesBack 25 = .ok (.iload_n 2, 1) := by decide +kernel
theorem dX12_takesBack_26 : decode cX12_takesBack 26 = .ok (.iadd, 1) := by decide +kernel
theorem dX12_takesBack_27 : decode cX12_takesBack 27 = .ok (.iaload, 1) := by decide +kernel
theorem dX12_takesBack_28 : decode cX12_takesBack 28 = .ok (.iastore, 1) := by decide +kernel
theorem dX12_takesBack_29 : decode cX12_takesBack 29 = .ok (.aload_n 0, 1) := by decide +kernel
theorem dX12_takesBack_30 : decode cX12_takesBack 30 = .ok (.getfield 7, 3) := by decide +kernel
theorem dX12_takesBack_33 : decode cX12_takesBack 33 = .ok (.iload_n 2, 1) := by decide +kernel
theorem dX12_takesBack_34 : decode cX12_takesBack 34 = .ok (.iconst 4, 1) := by decide +kernel
theorem dX12_takesBack_35 : decode cX12_takesBack 35 = .ok (.invokestatic 65, 3) := by decide +kernel
theorem dX12_takesBack_38 : decode cX12_takesBack 38 = .ok (.aload_n 0, 1) := by decide +kernel
theorem dX12_takesBack_39 : decode cX12_takesBack 39 = .ok (.getfield 25, 3) := by decide +kernel
theorem dX12_takesBack_42 : decode cX12_takesBack 42 = .ok (.bipush 14, 2) := by decide +kernel
theorem dX12_takesBack_44 : decode cX12_takesBack 44 = .ok (.iload_n 1, 1) := by decide +kernel
theorem dX12_takesBack_45 : decode cX12_takesBack 45 = .ok (.imul, 1) := by decide +kernel
theorem dX12_takesBack_46 : decode cX12_takesBack 46 = .ok (.bipush 6, 2) := by decide +kernel
theorem dX12_takesBack_48 : decode cX12_takesBack 48 = .ok (.iadd, 1) := by decide +kernel
theorem dX12_takesBack_49 : decode cX12_takesBack 49 = .ok (.iload_n 2, 1) := by decide +kernel
theorem dX12_takesBack_50 : decode cX12_takesBack 50 = .ok (.iadd, 1) := by decide +kernel
theorem dX12_takesBack_51 : decode cX12_takesBack 51 = .ok (.iaload, 1) := by decide +kernel
theorem dX12_takesBack_52 : decode cX12_takesBack 52 = .ok (.iastore, 1) := by decide +kernel
theorem dX12_takesBack_53 : decode cX12_takesBack 53 = .ok (.iinc 2 1, 3) := by decide +kernel
theorem dX12_takesBack_56 : decode cX12_takesBack 56 = .ok (.goto (-54), 3) := by decide +kernel
theorem dX12_takesBack_59 : decode cX12_takesBack 59 = .ok (.aload_n 0, 1) := by decide +kernel
theorem dX12_takesBack_60 : decode cX12_takesBack 60 = .ok (.getfield 7, 3) := by decide +kernel
theorem dX12_takesBack_63 : decode cX12_takesBack 63 = .ok (.iconst 3, 1) := by decide +kernel
theorem dX12_takesBack_64 : decode cX12_takesBack 64 = .ok (.aload_n 0, 1) := by decide +kernel
theorem dX12_takesBack_65 : decode cX12_takesBack 65 = .ok (.getfield 25, 3) := by decide +kernel
theorem dX12_takesBack_68 : decode cX12_takesBack 68 = .ok (.bipush 14, 2) := by decide +kernel
theorem dX12_takesBack_70 : decode cX12_takesBack 70 = .ok (.iload_n 1, 1) := by decide +kernel
theorem dX12_takesBack_71 : decode cX12_takesBack 71 = .ok (.imul, 1) := by decide +kernel
theorem dX12_takesBack_72 : decode cX12_takesBack 72 = .ok (.bipush 12, 2) := by decide +kernel
theorem dX12_takesBack_74 : decode cX12_takesBack 74 = .ok (.iadd, 1) := by decide +kernel
theorem dX12_takesBack_75 : decode cX12_takesBack 75 = .ok (.iaload, 1) := by decide +kernel
theorem dX12_takesBack_76 : decode cX12_takesBack 76 = .ok (.iastore, 1) := by decide +kernel
theorem dX12_takesBack_77 : decode cX12_takesBack 77 = .ok (.aload_n 0, 1) := by decide +kernel
theorem dX12_takesBack_78 : decode cX12_takesBack 78 = .ok (.getfield 7, 3) := by decide +kernel
theorem dX12_takesBack_81 : decode cX12_takesBack 81 = .ok (.iconst 4, 1) := by decide +kernel
theorem dX12_takesBack_82 : decode cX12_takesBack 82 = .ok (.aload_n 0, 1) := by decide +kernel
theorem dX12_takesBack_83 : decode cX12_takesBack 83 = .ok (.getfield 25, 3) := by decide +kernel
theorem dX12_takesBack_86 : decode cX12_takesBack 86 = .ok (.bipush 14, 2) := by decide +kernel
theorem dX12_takesBack_88 : decode cX12_takesBack 88 = .ok (.iload_n 1, 1) := by decide +kernel
theorem dX12_takesBack_89 : decode cX12_takesBack 89 = .ok (.imul, 1) := by decide +kernel
theorem dX12_takesBack_90 : decode cX12_takesBack 90 = .ok (.bipush 13, 2) := by decide +kernel
theorem dX12_takesBack_92 : decode cX12_takesBack 92 = .ok (.iadd, 1) := by decide +kernel
theorem dX12_takesBack_93 : decode cX12_takesBack 93 = .ok (.iaload, 1) := by decide +kernel
theorem dX12_takesBack_94 : decode cX12_takesBack 94 = .ok (.iastore, 1) := by decide +kernel
theorem dX12_takesBack_95 : decode cX12_takesBack 95 = .ok (.return_, 1) := by decide +kernel
theorem dX12_ended_0 : decode cX12_ended 0 = .ok (.iload_n 2, 1) := by decide +kernel
theorem dX12_ended_1 : decode cX12_ended 1 = .ok (.aload_n 0, 1) := by decide +kernel
theorem dX12_ended_2 : decode cX12_ended 2 = .ok (.getfield 192, 3) := by decide +kernel
theorem dX12_ended_5 : decode cX12_ended 5 = .ok (.if_icmp .le 43, 3) := by decide +kernel
theorem dX12_ended_8 : decode cX12_ended 8 = .ok (.aload_n 0, 1) := by decide +kernel
theorem dX12_ended_9 : decode cX12_ended 9 = .ok (.iload_n 2, 1) := by decide +kernel
theorem dX12_ended_10 : decode cX12_ended 10 = .ok (.putfield 192, 3) := by decide +kernel
theorem dX12_ended_13 : decode cX12_ended 13 = .ok (.aload_n 0, 1) := by decide +kernel
theorem dX12_ended_14 : decode cX12_ended 14 = .ok (.iconst 0, 1) := by decide +kernel
theorem dX12_ended_15 : decode cX12_ended 15 = .ok (.putfield 196, 3) := by decide +kernel
theorem dX12_ended_18 : decode cX12_ended 18 = .ok (.aload_n 0, 1) := by decide +kernel
theorem dX12_ended_19 : decode cX12_ended 19 = .ok (.iload_n 1, 1) := by decide +kernel
theorem dX12_ended_20 : decode cX12_ended 20 = .ok (.putfield 199, 3) := by decide +kernel
theorem dX12_ended_23 : decode cX12_ended 23 = .ok (.iconst 0, 1) := by decide +kernel
theorem dX12_ended_24 : decode cX12_ended 24 = .ok (.istore_n 3, 1) := by decide +kernel
theorem dX12_ended_25 : decode cX12_ended 25 = .ok (.iload_n 3, 1) := by decide +kernel
theorem dX12_ended_26 : decode cX12_ended 26 = .ok (.iload_n 1, 1) := by decide +kernel
theorem dX12_ended_27 : decode cX12_ended 27 = .ok (.if_icmp .ge 21, 3) := by decide +kernel
theorem dX12_ended_30 : decode cX12_ended 30 = .ok (.aload_n 0, 1) := by decide +kernel
theorem dX12_ended_31 : decode cX12_ended 31 = .ok (.getfield 31, 3) := by decide +kernel
theorem dX12_ended_34 : decode cX12_ended 34 = .ok (.iload_n 3, 1) := by decide +kernel
theorem dX12_ended_35 : decode cX12_ended 35 = .ok (.aload_n 0, 1) := by decide +kernel
theorem dX12_ended_36 : decode cX12_ended 36 = .ok (.getfield 28, 3) := by decide +kernel
theorem dX12_ended_39 : decode cX12_ended 39 = .ok (.iload_n 3, 1) := by decide +kernel
theorem dX12_ended_40 : decode cX12_ended 40 = .ok (.iaload, 1) := by decide +kernel
theorem dX12_ended_41 : decode cX12_ended 41 = .ok (.iastore, 1) := by decide +kernel
theorem dX12_ended_42 : decode cX12_ended 42 = .ok (.iinc 3 1, 3) := by decide +kernel
theorem dX12_ended_45 : decode cX12_ended 45 = .ok (.goto (-20), 3) := by decide +kernel
theorem dX12_ended_48 : decode cX12_ended 48 = .ok (.aload_n 0, 1) := by decide +kernel
theorem dX12_ended_49 : decode cX12_ended 49 = .ok (.dup, 1) := by decide +kernel
theorem dX12_ended_50 : decode cX12_ended 50 = .ok (.getfield 196, 3) := by decide +kernel
theorem dX12_ended_53 : decode cX12_ended 53 = .ok (.iload_n 2, 1) := by decide +kernel
theorem dX12_ended_54 : decode cX12_ended 54 = .ok (.aload_n 0, 1) := by decide +kernel
theorem dX12_ended_55 : decode cX12_ended 55 = .ok (.getfield 192, 3) := by decide +kernel
theorem dX12_ended_58 : decode cX12_ended 58 = .ok (.if_icmp .ne 7, 3) := by decide +kernel
theorem dX12_ended_61 : decode cX12_ended 61 = .ok (.iconst 1, 1) := by decide +kernel
theorem dX12_ended_62 : decode cX12_ended 62 = .ok (.goto 4, 3) := by decide +kernel
theorem dX12_ended_65 : decode cX12_ended 65 = .ok (.iconst 0, 1) := by decide +kernel
theorem dX12_ended_66 : decode cX12_ended 66 = .ok (.iadd, 1) := by decide +kernel
theorem dX12_ended_67 : decode cX12_ended 67 = .ok (.putfield 196, 3) := by decide +kernel
theorem dX12_ended_70 : decode cX12_ended 70 = .ok (.iconst 0, 1) := by decide +kernel
theorem dX12_ended_71 : decode cX12_ended 71 = .ok (.istore_n 3, 1) := by decide +kernel
theorem dX12_ended_72 : decode cX12_ended 72 = .ok (.iconst 0, 1) := by decide +kernel
theorem dX12_ended_73 : decode cX12_ended 73 = .ok (.istore 4, 2) := by decide +kernel
theorem dX12_ended_75 : decode cX12_ended 75 = .ok (.iload 4, 2) := by decide +kernel
theorem dX12_ended_77 : decode cX12_ended 77 = .ok (.iload_n 1, 1) := by decide +kernel
theorem dX12_ended_78 : decode cX12_ended 78 = .ok (.if_icmp .ge 27, 3) := by decide +kernel
theorem dX12_ended_81 : decode cX12_ended 81 = .ok (.iload_n 3, 1) := by decide +kernel
theorem dX12_ended_82 : decode cX12_ended 82 = .ok (.aload_n 0, 1) := by decide +kernel
theorem dX12_ended_83 : decode cX12_ended 83 = .ok (.getfield 28, 3) := by decide +kernel
theorem dX12_ended_86 : decode cX12_ended 86 = .ok (.iload 4, 2) := by decide +kernel
theorem dX12_ended_88 : decode cX12_ended 88 = .ok (.iaload, 1) := by decide +kernel
theorem dX12_ended_89 : decode cX12_ended 89 = .ok (.ifCond .le 7, 3) := by decide +kernel
theorem dX12_ended_92 : decode cX12_ended 92 = .ok (.iconst 1, 1) := by decide +kernel
theorem dX12_ended_93 : decode cX12_ended 93 = .ok (.goto 4, 3) := by decide +kernel
theorem dX12_ended_96 : decode cX12_ended 96 = .ok (.iconst 0, 1) := by decide +kernel
theorem dX12_ended_97 : decode cX12_ended 97 = .ok (.iadd, 1) := by decide +kernel
theorem dX12_ended_98 : decode cX12_ended 98 = .ok (.istore_n 3, 1) := by decide +kernel
theorem dX12_ended_99 : decode cX12_ended 99 = .ok (.iinc 4 1, 3) := by decide +kernel
theorem dX12_ended_102 : decode cX12_ended 102 = .ok (.goto (-27), 3) := by decide +kernel
theorem dX12_ended_105 : decode cX12_ended 105 = .ok (.aload_n 0, 1) := by decide +kernel
theorem dX12_ended_106 : decode cX12_ended 106 = .ok (.invokevirtual 122, 3) := by decide +kernel
theorem dX12_ended_109 : decode cX12_ended 109 = .ok (.istore 4, 2) := by decide +kernel
theorem dX12_ended_111 : decode cX12_ended 111 = .ok (.aload_n 0, 1) := by decide +kernel
theorem dX12_ended_112 : decode cX12_ended 112 = .ok (.dup, 1) := by decide +kernel
theorem dX12_ended_113 : decode cX12_ended 113 = .ok (.getfield 202, 3) := by decide +kernel
theorem dX12_ended_116 : decode cX12_ended 116 = .ok (.iload 4, 2) := by decide +kernel
theorem dX12_ended_118 : decode cX12_ended 118 = .ok (.ior, 1) := by decide +kernel
theorem dX12_ended_119 : decode cX12_ended 119 = .ok (.putfield 202, 3) := by decide +kernel
theorem dX12_ended_122 : decode cX12_ended 122 = .ok (.aload_n 0, 1) := by decide +kernel
theorem dX12_ended_123 : decode cX12_ended 123 = .ok (.aload_n 0, 1) := by decide +kernel
theorem dX12_ended_124 : decode cX12_ended 124 = .ok (.getfield 205, 3) := by decide +kernel
theorem dX12_ended_127 : decode cX12_ended 127 = .ok (.iload 4, 2) := by decide +kernel
theorem dX12_ended_129 : decode cX12_ended 129 = .ok (.iconst (-1), 1) := by decide +kernel
theorem dX12_ended_130 : decode cX12_ended 130 = .ok (.ixor, 1) := by decide +kernel
theorem dX12_ended_131 : decode cX12_ended 131 = .ok (.iand, 1) := by decide +kernel
theorem dX12_ended_132 : decode cX12_ended 132 = .ok (.ifCond .ne 15, 3) := by decide +kernel
theorem dX12_ended_135 : decode cX12_ended 135 = .ok (.iload_n 3, 1) := by decide +kernel
theorem dX12_ended_136 : decode cX12_ended 136 = .ok (.aload_n 0, 1) := by decide +kernel
theorem dX12_ended_137 : decode cX12_ended 137 = .ok (.getfield 208, 3) := by decide +kernel
theorem dX12_ended_140 : decode cX12_ended 140 = .ok (.if_icmp .ge 7, 3) := by decide +kernel
theorem dX12_ended_143 : decode cX12_ended 143 = .ok (.iload_n 3, 1) := by decide +kernel
theorem dX12_ended_144 : decode cX12_ended 144 = .ok (.goto 7, 3) := by decide +kernel
theorem dX12_ended_147 : decode cX12_ended 147 = .ok (.aload_n 0, 1) := by decide +kernel
theorem dX12_ended_148 : decode cX12_ended 148 = .ok (.getfield 208, 3) := by decide +kernel
theorem dX12_ended_151 : decode cX12_ended 151 = .ok (.putfield 208, 3) := by decide +kernel
theorem dX12_ended_154 : decode cX12_ended 154 = .ok (.return_, 1) := by decide +kernel
theorem dX12_plans_0 : decode cX12_plans 0 = .ok (.iload_n 1, 1) := by decide +kernel
theorem dX12_plans_1 : decode cX12_plans 1 = .ok (.iload_n 2, 1) := by decide +kernel
theorem dX12_plans_2 : decode cX12_plans 2 = .ok (.if_icmp .eq 10, 3) := by decide +kernel
theorem dX12_plans_5 : decode cX12_plans 5 = .ok (.aload_n 0, 1) := by decide +kernel
theorem dX12_plans_6 : decode cX12_plans 6 = .ok (.invokevirtual 118, 3) := by decide +kernel
theorem dX12_plans_9 : decode cX12_plans 9 = .ok (.ifCond .eq 10, 3) := by decide +kernel
theorem dX12_plans_12 : decode cX12_plans 12 = .ok (.aload_n 0, 1) := by decide +kernel
theorem dX12_plans_13 : decode cX12_plans 13 = .ok (.iload_n 1, 1) := by decide +kernel
theorem dX12_plans_14 : decode cX12_plans 14 = .ok (.iload_n 3, 1) := by decide +kernel
theorem dX12_plans_15 : decode cX12_plans 15 = .ok (.invokevirtual 211, 3) := by decide +kernel
theorem dX12_plans_18 : decode cX12_plans 18 = .ok (.return_, 1) := by decide +kernel
theorem dX12_plans_19 : decode cX12_plans 19 = .ok (.iconst 0, 1) := by decide +kernel
theorem dX12_plans_20 : decode cX12_plans 20 = .ok (.istore 4, 2) := by decide +kernel
theorem dX12_plans_22 : decode cX12_plans 22 = .ok (.iload 4, 2) := by decide +kernel
theorem dX12_plans_24 : decode cX12_plans 24 = .ok (.aload_n 0, 1) := by decide +kernel
theorem dX12_plans_25 : decode cX12_plans 25 = .ok (.getfield 7, 3) := by decide +kernel
theorem dX12_plans_28 : decode cX12_plans 28 = .ok (.iconst 0, 1) := by decide +kernel
theorem dX12_plans_29 : decode cX12_plans 29 = .ok (.iaload, 1) := by decide +kernel
theorem dX12_plans_30 : decode cX12_plans 30 = .ok (.if_icmp .gt 43, 3) := by decide +kernel
theorem dX12_plans_33 : decode cX12_plans 33 = .ok (.aload_n 0, 1) := by decide +kernel
theorem dX12_plans_34 : decode cX12_plans 34 = .ok (.iload_n 1, 1) := by decide +kernel
theorem dX12_plans_35 : decode cX12_plans 35 = .ok (.invokevirtual 215, 3) := by decide +kernel
theorem dX12_plans_38 : decode cX12_plans 38 = .ok (.aload_n 0, 1) := by decide +kernel
theorem dX12_plans_39 : decode cX12_plans 39 = .ok (.getfield 28, 3) := by decide +kernel
theorem dX12_plans_42 : decode cX12_plans 42 = .ok (.iload_n 1, 1) := by decide +kernel
theorem dX12_plans_43 : decode cX12_plans 43 = .ok (.iload 4, 2) := by decide +kernel
theorem dX12_plans_45 : decode cX12_plans 45 = .ok (.iastore, 1) := by decide +kernel
theorem dX12_plans_46 : decode cX12_plans 46 = .ok (.aload_n 0, 1) := by decide +kernel
theorem dX12_plans_47 : decode cX12_plans 47 = .ok (.iload_n 1, 1) := by decide +kernel
theorem dX12_plans_48 : decode cX12_plans 48 = .ok (.iconst 1, 1) := by decide +kernel
theorem dX12_plans_49 : decode cX12_plans 49 = .ok (.iadd, 1) := by decide +kernel
theorem dX12_plans_50 : decode cX12_plans 50 = .ok (.iload_n 2, 1) := by decide +kernel
theorem dX12_plans_51 : decode cX12_plans 51 = .ok (.iload_n 3, 1) := by decide +kernel
theorem dX12_plans_52 : decode cX12_plans 52 = .ok (.aload_n 0, 1) := by decide +kernel
theorem dX12_plans_53 : decode cX12_plans 53 = .ok (.iload 4, 2) := by decide +kernel
theorem dX12_plans_55 : decode cX12_plans 55 = .ok (.invokevirtual 159, 3) := by decide +kernel
theorem dX12_plans_58 : decode cX12_plans 58 = .ok (.iadd, 1) := by decide +kernel
theorem dX12_plans_59 : decode cX12_plans 59 = .ok (.invokevirtual 219, 3) := by decide +kernel
theorem dX12_plans_62 : decode cX12_plans 62 = .ok (.aload_n 0, 1) := by decide +kernel
theorem dX12_plans_63 : decode cX12_plans 63 = .ok (.iload_n 1, 1) := by decide +kernel
theorem dX12_plans_64 : decode cX12_plans 64 = .ok (.invokevirtual 223, 3) := by decide +kernel
theorem dX12_plans_67 : decode cX12_plans 67 = .ok (.iinc 4 1, 3) := by decide +kernel
theorem dX12_plans_70 : decode cX12_plans 70 = .ok (.goto (-48), 3) := by decide +kernel
theorem dX12_plans_73 : decode cX12_plans 73 = .ok (.return_, 1) := by decide +kernel
theorem dX12_plansOf_0 : decode cX12_plansOf 0 = .ok (.aload_n 0, 1) := by decide +kernel
theorem dX12_plansOf_1 : decode cX12_plansOf 1 = .ok (.iconst (-1), 1) := by decide +kernel
theorem dX12_plansOf_2 : decode cX12_plansOf 2 = .ok (.putfield 192, 3) := by decide +kernel
theorem dX12_plansOf_5 : decode cX12_plansOf 5 = .ok (.aload_n 0, 1) := by decide +kernel
theorem dX12_plansOf_6 : decode cX12_plansOf 6 = .ok (.iconst 0, 1) := by decide +kernel
theorem dX12_plansOf_7 : decode cX12_plansOf 7 = .ok (.putfield 196, 3) := by decide +kernel
theorem dX12_plansOf_10 : decode cX12_plansOf 10 = .ok (.aload_n 0, 1) := by decide +kernel
theorem dX12_plansOf_11 : decode cX12_plansOf 11 = .ok (.iconst 5, 1) := by decide +kernel
theorem dX12_plansOf_12 : decode cX12_plansOf 12 = .ok (.putfield 208, 3) := by decide +kernel
theorem dX12_plansOf_15 : decode cX12_plansOf 15 = .ok (.aload_n 0, 1) := by decide +kernel
theorem dX12_plansOf_16 : decode cX12_plansOf 16 = .ok (.iconst 0, 1) := by decide +kernel
theorem dX12_plansOf_17 : decode cX12_plansOf 17 = .ok (.putfield 202, 3) := by decide +kernel
theorem dX12_plansOf_20 : decode cX12_plansOf 20 = .ok (.aload_n 0, 1) := by decide +kernel
theorem dX12_plansOf_21 : decode cX12_plansOf 21 = .ok (.iload_n 2, 1) := by decide +kernel
theorem dX12_plansOf_22 : decode cX12_plansOf 22 = .ok (.putfield 205, 3) := by decide +kernel
theorem dX12_plansOf_25 : decode cX12_plansOf 25 = .ok (.aload_n 0, 1) := by decide +kernel
theorem dX12_plansOf_26 : decode cX12_plansOf 26 = .ok (.iconst 0, 1) := by decide +kernel
theorem dX12_plansOf_27 : decode cX12_plansOf 27 = .ok (.iload_n 1, 1) := by decide +kernel
theorem dX12_plansOf_28 : decode cX12_plansOf 28 = .ok (.iconst 0, 1) := by decide +kernel
theorem dX12_plansOf_29 : decode cX12_plansOf 29 = .ok (.invokevirtual 219, 3) := by decide +kernel
theorem dX12_plansOf_32 : decode cX12_plansOf 32 = .ok (.aload_n 0, 1) := by decide +kernel
theorem dX12_plansOf_33 : decode cX12_plansOf 33 = .ok (.getfield 199, 3) := by decide +kernel
theorem dX12_plansOf_36 : decode cX12_plansOf 36 = .ok (.ireturn, 1) := by decide +kernel
theorem dX12_isLong_0 : decode cX12_isLong 0 = .ok (.iload_n 0, 1) := by decide +kernel
theorem dX12_isLong_1 : decode cX12_isLong 1 = .ok (.i2l, 1) := by decide +kernel
theorem dX12_isLong_2 : decode cX12_isLong 2 = .ok (.lconst 0, 1) := by decide +kernel
theorem dX12_isLong_3 : decode cX12_isLong 3 = .ok (.ldc2_w 226, 3) := by decide +kernel
theorem dX12_isLong_6 : decode cX12_isLong 6 = .ok (.invokestatic 61, 3) := by decide +kernel
theorem dX12_isLong_9 : decode cX12_isLong 9 = .ok (.ireturn, 1) := by decide +kernel
theorem dX12_best_0 : decode cX12_best 0 = .ok (.iload_n 1, 1) := by decide +kernel
theorem dX12_best_1 : decode cX12_best 1 = .ok (.invokestatic 228, 3) := by decide +kernel
theorem dX12_best_4 : decode cX12_best 4 = .ok (.ifCond .ne 5, 3) := by decide +kernel
theorem dX12_best_7 : decode cX12_best 7 = .ok (.iconst (-1), 1) := by decide +kernel
theorem dX12_best_8 : decode cX12_best 8 = .ok (.ireturn, 1) := by decide +kernel
theorem dX12_best_9 : decode cX12_best 9 = .ok (.aload_n 0, 1) := by decide +kernel
theorem dX12_best_10 : decode cX12_best 10 = .ok (.iload_n 1, 1) := by decide +kernel
theorem dX12_best_11 : decode cX12_best 11 = .ok (.iconst 0, 1) := by decide +kernel
theorem dX12_best_12 : decode cX12_best 12 = .ok (.invokevirtual 231, 3) := by decide +kernel
theorem dX12_best_15 : decode cX12_best 15 = .ok (.istore_n 2, 1) := by decide +kernel
theorem dX12_best_16 : decode cX12_best 16 = .ok (.aload_n 0, 1) := by decide +kernel
theorem dX12_best_17 : decode cX12_best 17 = .ok (.getfield 192, 3) := by decide +kernel
theorem dX12_best_20 : decode cX12_best 20 = .ok (.ireturn, 1) := by decide +kernel
theorem dX12_ith_0 : decode cX12_ith 0 = .ok (.iload_n 1, 1) := by decide +kernel
theorem dX12_ith_1 : decode cX12_ith 1 = .ok (.invokestatic 228, 3) := by decide +kernel
theorem dX12_ith_4 : decode cX12_ith 4 = .ok (.ifCond .eq 15, 3) := by decide +kernel
theorem dX12_ith_7 : decode cX12_ith 7 = .ok (.iload_n 2, 1) := by decide +kernel
theorem dX12_ith_8 : decode cX12_ith 8 = .ok (.i2l, 1) := by decide +kernel
theorem dX12_ith_9 : decode cX12_ith 9 = .ok (.lconst 0, 1) := by decide +kernel
theorem dX12_ith_10 : decode cX12_ith 10 = .ok (.ldc2_w 234, 3) := by decide +kernel
theorem dX12_ith_13 : decode cX12_ith 13 = .ok (.invokestatic 61, 3) := by decide +kernel
theorem dX12_ith_16 : decode cX12_ith 16 = .ok (.ifCond .ne 5, 3) := by decide +kernel
theorem dX12_ith_19 : decode cX12_ith 19 = .ok (.iconst (-1), 1) := by decide +kernel
theorem dX12_ith_20 : decode cX12_ith 20 = .ok (.ireturn, 1) := by decide +kernel
theorem dX12_ith_21 : decode cX12_ith 21 = .ok (.iload_n 2, 1) := by decide +kernel
theorem dX12_ith_22 : decode cX12_ith 22 = .ok (.aload_n 0, 1) := by decide +kernel
theorem dX12_ith_23 : decode cX12_ith 23 = .ok (.iload_n 1, 1) := by decide +kernel
theorem dX12_ith_24 : decode cX12_ith 24 = .ok (.iconst 0, 1) := by decide +kernel
theorem dX12_ith_25 : decode cX12_ith 25 = .ok (.invokevirtual 231, 3) := by decide +kernel
theorem dX12_ith_28 : decode cX12_ith 28 = .ok (.if_icmp .ge 12, 3) := by decide +kernel
theorem dX12_ith_31 : decode cX12_ith 31 = .ok (.aload_n 0, 1) := by decide +kernel
theorem dX12_ith_32 : decode cX12_ith 32 = .ok (.getfield 31, 3) := by decide +kernel
theorem dX12_ith_35 : decode cX12_ith 35 = .ok (.iload_n 2, 1) := by decide +kernel
theorem dX12_ith_36 : decode cX12_ith 36 = .ok (.iaload, 1) := by decide +kernel
theorem dX12_ith_37 : decode cX12_ith 37 = .ok (.goto 5, 3) := by decide +kernel
theorem dX12_ith_40 : decode cX12_ith 40 = .ok (.bipush (-3), 2) := by decide +kernel
theorem dX12_ith_42 : decode cX12_ith 42 = .ok (.ireturn, 1) := by decide +kernel
theorem dX12_ways_0 : decode cX12_ways 0 = .ok (.iload_n 1, 1) := by decide +kernel
theorem dX12_ways_1 : decode cX12_ways 1 = .ok (.invokestatic 228, 3) := by decide +kernel
theorem dX12_ways_4 : decode cX12_ways 4 = .ok (.ifCond .ne 5, 3) := by decide +kernel
theorem dX12_ways_7 : decode cX12_ways 7 = .ok (.iconst (-1), 1) := by decide +kernel
theorem dX12_ways_8 : decode cX12_ways 8 = .ok (.ireturn, 1) := by decide +kernel
theorem dX12_ways_9 : decode cX12_ways 9 = .ok (.aload_n 0, 1) := by decide +kernel
theorem dX12_ways_10 : decode cX12_ways 10 = .ok (.iload_n 1, 1) := by decide +kernel
theorem dX12_ways_11 : decode cX12_ways 11 = .ok (.iconst 0, 1) := by decide +kernel
theorem dX12_ways_12 : decode cX12_ways 12 = .ok (.invokevirtual 231, 3) := by decide +kernel
theorem dX12_ways_15 : decode cX12_ways 15 = .ok (.istore_n 2, 1) := by decide +kernel
theorem dX12_ways_16 : decode cX12_ways 16 = .ok (.aload_n 0, 1) := by decide +kernel
theorem dX12_ways_17 : decode cX12_ways 17 = .ok (.getfield 196, 3) := by decide +kernel
theorem dX12_ways_20 : decode cX12_ways 20 = .ok (.ireturn, 1) := by decide +kernel
theorem dX12_haul_0 : decode cX12_haul 0 = .ok (.iload_n 1, 1) := by decide +kernel
theorem dX12_haul_1 : decode cX12_haul 1 = .ok (.invokestatic 228, 3) := by decide +kernel
theorem dX12_haul_4 : decode cX12_haul 4 = .ok (.ifCond .eq 11, 3) := by decide +kernel
theorem dX12_haul_7 : decode cX12_haul 7 = .ok (.aload_n 0, 1) := by decide +kernel
theorem dX12_haul_8 : decode cX12_haul 8 = .ok (.iload_n 2, 1) := by decide +kernel
theorem dX12_haul_9 : decode cX12_haul 9 = .ok (.invokevirtual 236, 3) := by decide +kernel
theorem dX12_haul_12 : decode cX12_haul 12 = .ok (.ifCond .ne 5, 3) := by decide +kernel
theorem dX12_haul_15 : decode cX12_haul 15 = .ok (.iconst (-1), 1) := by decide +kernel
theorem dX12_haul_16 : decode cX12_haul 16 = .ok (.ireturn, 1) := by decide +kernel
theorem dX12_haul_17 : decode cX12_haul 17 = .ok (.aload_n 0, 1) := by decide +kernel
theorem dX12_haul_18 : decode cX12_haul 18 = .ok (.iload_n 1, 1) := by decide +kernel
theorem dX12_haul_19 : decode cX12_haul 19 = .ok (.iload_n 2, 1) := by decide +kernel
theorem dX12_haul_20 : decode cX12_haul 20 = .ok (.invokevirtual 231, 3) := by decide +kernel
theorem dX12_haul_23 : decode cX12_haul 23 = .ok (.istore_n 3, 1) := by decide +kernel
theorem dX12_haul_24 : decode cX12_haul 24 = .ok (.aload_n 0, 1) := by decide +kernel
theorem dX12_haul_25 : decode cX12_haul 25 = .ok (.getfield 208, 3) := by decide +kernel
theorem dX12_haul_28 : decode cX12_haul 28 = .ok (.iconst 4, 1) := by decide +kernel
theorem dX12_haul_29 : decode cX12_haul 29 = .ok (.if_icmp .le 8, 3) := by decide +kernel
theorem dX12_haul_32 : decode cX12_haul 32 = .ok (.bipush (-3), 2) := by decide +kernel
theorem dX12_haul_34 : decode cX12_haul 34 = .ok (.goto 7, 3) := by decide +kernel
theorem dX12_haul_37 : decode cX12_haul 37 = .ok (.aload_n 0, 1) := by decide +kernel
theorem dX12_haul_38 : decode cX12_haul 38 = .ok (.getfield 208, 3) := by decide +kernel
theorem dX12_haul_41 : decode cX12_haul 41 = .ok (.ireturn, 1) := by decide +kernel
theorem dX12_bars_0 : decode cX12_bars 0 = .ok (.iload_n 1, 1) := by decide +kernel
theorem dX12_bars_1 : decode cX12_bars 1 = .ok (.invokestatic 228, 3) := by decide +kernel
theorem dX12_bars_4 : decode cX12_bars 4 = .ok (.ifCond .eq 11, 3) := by decide +kernel
theorem dX12_bars_7 : decode cX12_bars 7 = .ok (.aload_n 0, 1) := by decide +kernel
theorem dX12_bars_8 : decode cX12_bars 8 = .ok (.iload_n 2, 1) := by decide +kernel
theorem dX12_bars_9 : decode cX12_bars 9 = .ok (.invokevirtual 236, 3) := by decide +kernel
theorem dX12_bars_12 : decode cX12_bars 12 = .ok (.ifCond .ne 5, 3) := by decide +kernel
theorem dX12_bars_15 : decode cX12_bars 15 = .ok (.iconst (-1), 1) := by decide +kernel
theorem dX12_bars_16 : decode cX12_bars 16 = .ok (.ireturn, 1) := by decide +kernel
theorem dX12_bars_17 : decode cX12_bars 17 = .ok (.aload_n 0, 1) := by decide +kernel
theorem dX12_bars_18 : decode cX12_bars 18 = .ok (.iload_n 1, 1) := by decide +kernel
theorem dX12_bars_19 : decode cX12_bars 19 = .ok (.iload_n 2, 1) := by decide +kernel
theorem dX12_bars_20 : decode cX12_bars 20 = .ok (.invokevirtual 231, 3) := by decide +kernel
theorem dX12_bars_23 : decode cX12_bars 23 = .ok (.istore_n 3, 1) := by decide +kernel
theorem dX12_bars_24 : decode cX12_bars 24 = .ok (.iconst 0, 1) := by decide +kernel
theorem dX12_bars_25 : decode cX12_bars 25 = .ok (.istore 4, 2) := by decide +kernel
theorem dX12_bars_27 : decode cX12_bars 27 = .ok (.iload 4, 2) := by decide +kernel
theorem dX12_bars_29 : decode cX12_bars 29 = .ok (.aload_n 0, 1) := by decide +kernel
theorem dX12_bars_30 : decode cX12_bars 30 = .ok (.getfield 7, 3) := by decide +kernel
theorem dX12_bars_33 : decode cX12_bars 33 = .ok (.iconst 0, 1) := by decide +kernel
theorem dX12_bars_34 : decode cX12_bars 34 = .ok (.iaload, 1) := by decide +kernel
theorem dX12_bars_35 : decode cX12_bars 35 = .ok (.if_icmp .ge 29, 3) := by decide +kernel
theorem dX12_bars_38 : decode cX12_bars 38 = .ok (.iload_n 2, 1) := by decide +kernel
theorem dX12_bars_39 : decode cX12_bars 39 = .ok (.aload_n 0, 1) := by decide +kernel
theorem dX12_bars_40 : decode cX12_bars 40 = .ok (.getfield 202, 3) := by decide +kernel
theorem dX12_bars_43 : decode cX12_bars 43 = .ok (.iconst (-1), 1) := by decide +kernel
theorem dX12_bars_44 : decode cX12_bars 44 = .ok (.ixor, 1) := by decide +kernel
theorem dX12_bars_45 : decode cX12_bars 45 = .ok (.iand, 1) := by decide +kernel
theorem dX12_bars_46 : decode cX12_bars 46 = .ok (.iload 4, 2) := by decide +kernel
theorem dX12_bars_48 : decode cX12_bars 48 = .ok (.ishr, 1) := by decide +kernel
theorem dX12_bars_49 : decode cX12_bars 49 = .ok (.iconst 1, 1) := by decide +kernel
theorem dX12_bars_50 : decode cX12_bars 50 = .ok (.iand, 1) := by decide +kernel
theorem dX12_bars_51 : decode cX12_bars 51 = .ok (.iconst 1, 1) := by decide +kernel
theorem dX12_bars_52 : decode cX12_bars 52 = .ok (.if_icmp .ne 6, 3) := by decide +kernel
theorem dX12_bars_55 : decode cX12_bars 55 = .ok (.iload 4, 2) := by decide +kernel
theorem dX12_bars_57 : decode cX12_bars 57 = .ok (.ireturn, 1) := by decide +kernel
theorem dX12_bars_58 : decode cX12_bars 58 = .ok (.iinc 4 1, 3) := by decide +kernel
theorem dX12_bars_61 : decode cX12_bars 61 = .ok (.goto (-34), 3) := by decide +kernel
theorem dX12_bars_64 : decode cX12_bars 64 = .ok (.bipush (-3), 2) := by decide +kernel
theorem dX12_bars_66 : decode cX12_bars 66 = .ok (.ireturn, 1) := by decide +kernel
theorem dX12_played_0 : decode cX12_played 0 = .ok (.iload_n 1, 1) := by decide +kernel
theorem dX12_played_1 : decode cX12_played 1 = .ok (.iload_n 2, 1) := by decide +kernel
theorem dX12_played_2 : decode cX12_played 2 = .ok (.if_icmp .eq 10, 3) := by decide +kernel
theorem dX12_played_5 : decode cX12_played 5 = .ok (.aload_n 0, 1) := by decide +kernel
theorem dX12_played_6 : decode cX12_played 6 = .ok (.invokevirtual 118, 3) := by decide +kernel
theorem dX12_played_9 : decode cX12_played 9 = .ok (.ifCond .eq 5, 3) := by decide +kernel
theorem dX12_played_12 : decode cX12_played 12 = .ok (.iconst 0, 1) := by decide +kernel
theorem dX12_played_13 : decode cX12_played 13 = .ok (.ireturn, 1) := by decide +kernel
theorem dX12_played_14 : decode cX12_played 14 = .ok (.iconst 0, 1) := by decide +kernel
theorem dX12_played_15 : decode cX12_played 15 = .ok (.istore 4, 2) := by decide +kernel
theorem dX12_played_17 : decode cX12_played 17 = .ok (.iconst (-1), 1) := by decide +kernel
theorem dX12_played_18 : decode cX12_played 18 = .ok (.istore 5, 2) := by decide +kernel
theorem dX12_played_20 : decode cX12_played 20 = .ok (.iconst 0, 1) := by decide +kernel
theorem dX12_played_21 : decode cX12_played 21 = .ok (.istore 6, 2) := by decide +kernel
theorem dX12_played_23 : decode cX12_played 23 = .ok (.iload 6, 2) := by decide +kernel
theorem dX12_played_25 : decode cX12_played 25 = .ok (.aload_n 0, 1) := by decide +kernel
theorem dX12_played_26 : decode cX12_played 26 = .ok (.getfield 7, 3) := by decide +kernel
theorem dX12_played_29 : decode cX12_played 29 = .ok (.iconst 0, 1) := by decide +kernel
theorem dX12_played_30 : decode cX12_played 30 = .ok (.iaload, 1) := by decide +kernel
theorem dX12_played_31 : decode cX12_played 31 = .ok (.if_icmp .gt 110, 3) := by decide +kernel
theorem dX12_played_34 : decode cX12_played 34 = .ok (.aload_n 0, 1) := by decide +kernel
theorem dX12_played_35 : decode cX12_played 35 = .ok (.iload_n 1, 1) := by decide +kernel
theorem dX12_played_36 : decode cX12_played 36 = .ok (.invokevirtual 215, 3) := by decide +kernel
theorem dX12_played_39 : decode cX12_played 39 = .ok (.aload_n 0, 1) := by decide +kernel
theorem dX12_played_40 : decode cX12_played 40 = .ok (.iload 6, 2) := by decide +kernel
theorem dX12_played_42 : decode cX12_played 42 = .ok (.invokevirtual 159, 3) := by decide +kernel
theorem dX12_played_45 : decode cX12_played 45 = .ok (.istore 7, 2) := by decide +kernel
theorem dX12_played_47 : decode cX12_played 47 = .ok (.iload 7, 2) := by decide +kernel
theorem dX12_played_49 : decode cX12_played 49 = .ok (.aload_n 0, 1) := by decide +kernel
theorem dX12_played_50 : decode cX12_played 50 = .ok (.iload_n 1, 1) := by decide +kernel
theorem dX12_played_51 : decode cX12_played 51 = .ok (.iconst 1, 1) := by decide +kernel
theorem dX12_played_52 : decode cX12_played 52 = .ok (.iadd, 1) := by decide +kernel
theorem dX12_played_53 : decode cX12_played 53 = .ok (.iload_n 2, 1) := by decide +kernel
theorem dX12_played_54 : decode cX12_played 54 = .ok (.iload_n 3, 1) := by decide +kernel
theorem dX12_played_55 : decode cX12_played 55 = .ok (.ifCond .ne 7, 3) := by decide +kernel
theorem dX12_played_58 : decode cX12_played 58 = .ok (.iconst 1, 1) := by decide +kernel
theorem dX12_played_59 : decode cX12_played 59 = .ok (.goto 4, 3) := by decide +kernel
theorem dX12_played_62 : decode cX12_played 62 = .ok (.iconst 0, 1) := by decide +kernel
theorem dX12_played_63 : decode cX12_played 63 = .ok (.invokevirtual 239, 3) := by decide +kernel
theorem dX12_played_66 : decode cX12_played 66 = .ok (.iadd, 1) := by decide +kernel
theorem dX12_played_67 : decode cX12_played 67 = .ok (.istore 7, 2) := by decide +kernel
theorem dX12_played_69 : decode cX12_played 69 = .ok (.aload_n 0, 1) := by decide +kernel
theorem dX12_played_70 : decode cX12_played 70 = .ok (.iload_n 1, 1) := by decide +kernel
theorem dX12_played_71 : decode cX12_played 71 = .ok (.invokevirtual 223, 3) := by decide +kernel
theorem dX12_played_74 : decode cX12_played 74 = .ok (.iload 5, 2) := by decide +kernel
theorem dX12_played_76 : decode cX12_played 76 = .ok (.ifCond .lt 24, 3) := by decide +kernel
theorem dX12_played_79 : decode cX12_played 79 = .ok (.iload_n 3, 1) := by decide +kernel
theorem dX12_played_80 : decode cX12_played 80 = .ok (.ifCond .eq 13, 3) := by decide +kernel
theorem dX12_played_83 : decode cX12_played 83 = .ok (.iload 7, 2) := by decide +kernel
theorem dX12_played_85 : decode cX12_played 85 = .ok (.iload 4, 2) := by decide +kernel
theorem dX12_played_87 : decode cX12_played 87 = .ok (.if_icmp .le 17, 3) := by decide +kernel
theorem dX12_played_90 : decode cX12_played 90 = .ok (.goto 10, 3) := by decide +kernel
theorem dX12_played_93 : decode cX12_played 93 = .ok (.iload 7, 2) := by decide +kernel
theorem dX12_played_95 : decode cX12_played 95 = .ok (.iload 4, 2) := by decide +kernel
theorem dX12_played_97 : decode cX12_played 97 = .ok (.if_icmp .ge 7, 3) := by decide +kernel
theorem dX12_played_100 : decode cX12_played 100 = .ok (.iconst 1, 1) := by decide +kernel
theorem dX12_played_101 : decode cX12_played 101 = .ok (.goto 4, 3) := by decide +kernel
theorem dX12_played_104 : decode cX12_played 104 = .ok (.iconst 0, 1) := by decide +kernel
theorem dX12_played_105 : decode cX12_played 105 = .ok (.istore 8, 2) := by decide +kernel
theorem dX12_played_107 : decode cX12_played 107 = .ok (.iload 8, 2) := by decide +kernel
theorem dX12_played_109 : decode cX12_played 109 = .ok (.ifCond .eq 8, 3) := by decide +kernel
theorem dX12_played_112 : decode cX12_played 112 = .ok (.iload 7, 2) := by decide +kernel
theorem dX12_played_114 : decode cX12_played 114 = .ok (.goto 5, 3) := by decide +kernel
theorem dX12_played_117 : decode cX12_played 117 = .ok (.iload 4, 2) := by decide +kernel
theorem dX12_played_119 : decode cX12_played 119 = .ok (.istore 4, 2) := by decide +kernel
theorem dX12_played_121 : decode cX12_played 121 = .ok (.iload 8, 2) := by decide +kernel
theorem dX12_played_123 : decode cX12_played 123 = .ok (.ifCond .eq 8, 3) := by decide +kernel
theorem dX12_played_126 : decode cX12_played 126 = .ok (.iload 6, 2) := by decide +kernel
theorem dX12_played_128 : decode cX12_played 128 = .ok (.goto 5, 3) := by decide +kernel
theorem dX12_played_131 : decode cX12_played 131 = .ok (.iload 5, 2) := by decide +kernel
theorem dX12_played_133 : decode cX12_played 133 = .ok (.istore 5, 2) := by decide +kernel
theorem dX12_played_135 : decode cX12_played 135 = .ok (.iinc 6 1, 3) := by decide +kernel
theorem dX12_played_138 : decode cX12_played 138 = .ok (.goto (-115), 3) := by decide +kernel
theorem dX12_played_141 : decode cX12_played 141 = .ok (.aload_n 0, 1) := by decide +kernel
theorem dX12_played_142 : decode cX12_played 142 = .ok (.iload 5, 2) := by decide +kernel
theorem dX12_played_144 : decode cX12_played 144 = .ok (.putfield 243, 3) := by decide +kernel
theorem dX12_played_147 : decode cX12_played 147 = .ok (.iload 4, 2) := by decide +kernel
theorem dX12_played_149 : decode cX12_played 149 = .ok (.ireturn, 1) := by decide +kernel
theorem dX12_game_0 : decode cX12_game 0 = .ok (.iload_n 1, 1) := by decide +kernel
theorem dX12_game_1 : decode cX12_game 1 = .ok (.i2l, 1) := by decide +kernel
theorem dX12_game_2 : decode cX12_game 2 = .ok (.lconst 1, 1) := by decide +kernel
theorem dX12_game_3 : decode cX12_game 3 = .ok (.ldc2_w 226, 3) := by decide +kernel
theorem dX12_game_6 : decode cX12_game 6 = .ok (.invokestatic 61, 3) := by decide +kernel
theorem dX12_game_9 : decode cX12_game 9 = .ok (.ifCond .eq 13, 3) := by decide +kernel
theorem dX12_game_12 : decode cX12_game 12 = .ok (.aload_n 0, 1) := by decide +kernel
theorem dX12_game_13 : decode cX12_game 13 = .ok (.iconst 0, 1) := by decide +kernel
theorem dX12_game_14 : decode cX12_game 14 = .ok (.iload_n 1, 1) := by decide +kernel
theorem dX12_game_15 : decode cX12_game 15 = .ok (.iconst 1, 1) := by decide +kernel
theorem dX12_game_16 : decode cX12_game 16 = .ok (.invokevirtual 239, 3) := by decide +kernel
theorem dX12_game_19 : decode cX12_game 19 = .ok (.goto 4, 3) := by decide +kernel
theorem dX12_game_22 : decode cX12_game 22 = .ok (.iconst (-1), 1) := by decide +kernel
theorem dX12_game_23 : decode cX12_game 23 = .ok (.ireturn, 1) := by decide +kernel
theorem dX12_play_0 : decode cX12_play 0 = .ok (.iload_n 1, 1) := by decide +kernel
theorem dX12_play_1 : decode cX12_play 1 = .ok (.i2l, 1) := by decide +kernel
theorem dX12_play_2 : decode cX12_play 2 = .ok (.lconst 1, 1) := by decide +kernel
theorem dX12_play_3 : decode cX12_play 3 = .ok (.ldc2_w 226, 3) := by decide +kernel
theorem dX12_play_6 : decode cX12_play 6 = .ok (.invokestatic 61, 3) := by decide +kernel
theorem dX12_play_9 : decode cX12_play 9 = .ok (.ifCond .ne 5, 3) := by decide +kernel
theorem dX12_play_12 : decode cX12_play 12 = .ok (.iconst (-1), 1) := by decide +kernel
theorem dX12_play_13 : decode cX12_play 13 = .ok (.ireturn, 1) := by decide +kernel
theorem dX12_play_14 : decode cX12_play 14 = .ok (.aload_n 0, 1) := by decide +kernel
theorem dX12_play_15 : decode cX12_play 15 = .ok (.invokevirtual 118, 3) := by decide +kernel
theorem dX12_play_18 : decode cX12_play 18 = .ok (.ifCond .eq 6, 3) := by decide +kernel
theorem dX12_play_21 : decode cX12_play 21 = .ok (.bipush (-3), 2) := by decide +kernel
theorem dX12_play_23 : decode cX12_play 23 = .ok (.ireturn, 1) := by decide +kernel
theorem dX12_play_24 : decode cX12_play 24 = .ok (.aload_n 0, 1) := by decide +kernel
theorem dX12_play_25 : decode cX12_play 25 = .ok (.iconst 0, 1) := by decide +kernel
theorem dX12_play_26 : decode cX12_play 26 = .ok (.iload_n 1, 1) := by decide +kernel
theorem dX12_play_27 : decode cX12_play 27 = .ok (.iconst 1, 1) := by decide +kernel
theorem dX12_play_28 : decode cX12_play 28 = .ok (.invokevirtual 239, 3) := by decide +kernel
theorem dX12_play_31 : decode cX12_play 31 = .ok (.istore_n 2, 1) := by decide +kernel
theorem dX12_play_32 : decode cX12_play 32 = .ok (.aload_n 0, 1) := by decide +kernel
theorem dX12_play_33 : decode cX12_play 33 = .ok (.getfield 243, 3) := by decide +kernel
theorem dX12_play_36 : decode cX12_play 36 = .ok (.ireturn, 1) := by decide +kernel
theorem dX12_report_0 : decode cX12_report 0 = .ok (.iload_n 1, 1) := by decide +kernel
theorem dX12_report_1 : decode cX12_report 1 = .ok (.invokestatic 111, 3) := by decide +kernel
theorem dX12_report_4 : decode cX12_report 4 = .ok (.ifCond .eq 28, 3) := by decide +kernel
theorem dX12_report_7 : decode cX12_report 7 = .ok (.iload_n 2, 1) := by decide +kernel
theorem dX12_report_8 : decode cX12_report 8 = .ok (.i2l, 1) := by decide +kernel
theorem dX12_report_9 : decode cX12_report 9 = .ok (.lconst 0, 1) := by decide +kernel
theorem dX12_report_10 : decode cX12_report 10 = .ok (.ldc2_w 73, 3) := by decide +kernel
theorem dX12_report_13 : decode cX12_report 13 = .ok (.invokestatic 61, 3) := by decide +kernel
theorem dX12_report_16 : decode cX12_report 16 = .ok (.ifCond .eq 16, 3) := by decide +kernel
theorem dX12_report_19 : decode cX12_report 19 = .ok (.iload_n 3, 1) := by decide +kernel
theorem dX12_report_20 : decode cX12_report 20 = .ok (.i2l, 1) := by decide +kernel
theorem dX12_report_21 : decode cX12_report 21 = .ok (.iload_n 2, 1) := by decide +kernel
theorem dX12_report_22 : decode cX12_report 22 = .ok (.i2l, 1) := by decide +kernel
theorem dX12_report_23 : decode cX12_report 23 = .ok (.ldc2_w 73, 3) := by decide +kernel
theorem dX12_report_26 : decode cX12_report 26 = .ok (.invokestatic 61, 3) := by decide +kernel
theorem dX12_report_29 : decode cX12_report 29 = .ok (.ifCond .ne 5, 3) := by decide +kernel
theorem dX12_report_32 : decode cX12_report 32 = .ok (.iconst (-1), 1) := by decide +kernel
theorem dX12_report_33 : decode cX12_report 33 = .ok (.ireturn, 1) := by decide +kernel
theorem dX12_report_34 : decode cX12_report 34 = .ok (.aload_n 0, 1) := by decide +kernel
theorem dX12_report_35 : decode cX12_report 35 = .ok (.getfield 7, 3) := by decide +kernel
theorem dX12_report_38 : decode cX12_report 38 = .ok (.bipush 6, 2) := by decide +kernel
theorem dX12_report_40 : decode cX12_report 40 = .ok (.iaload, 1) := by decide +kernel
theorem dX12_report_41 : decode cX12_report 41 = .ok (.bipush 6, 2) := by decide +kernel
theorem dX12_report_43 : decode cX12_report 43 = .ok (.if_icmp .ne 6, 3) := by decide +kernel
theorem dX12_report_46 : decode cX12_report 46 = .ok (.bipush (-2), 2) := by decide +kernel
theorem dX12_report_48 : decode cX12_report 48 = .ok (.ireturn, 1) := by decide +kernel
theorem dX12_report_49 : decode cX12_report 49 = .ok (.bipush 54, 2) := by decide +kernel
theorem dX12_report_51 : decode cX12_report 51 = .ok (.iconst 3, 1) := by decide +kernel
theorem dX12_report_52 : decode cX12_report 52 = .ok (.aload_n 0, 1) := by decide +kernel
theorem dX12_report_53 : decode cX12_report 53 = .ok (.getfield 7, 3) := by decide +kernel
theorem dX12_report_56 : decode cX12_report 56 = .ok (.bipush 6, 2) := by decide +kernel
theorem dX12_report_58 : decode cX12_report 58 = .ok (.iaload, 1) := by decide +kernel
theorem dX12_report_59 : decode cX12_report 59 = .ok (.imul, 1) := by decide +kernel
theorem dX12_report_60 : decode cX12_report 60 = .ok (.iadd, 1) := by decide +kernel
theorem dX12_report_61 : decode cX12_report 61 = .ok (.istore 4, 2) := by decide +kernel
theorem dX12_report_63 : decode cX12_report 63 = .ok (.aload_n 0, 1) := by decide +kernel
theorem dX12_report_64 : decode cX12_report 64 = .ok (.getfield 7, 3) := by decide +kernel
theorem dX12_report_67 : decode cX12_report 67 = .ok (.iload 4, 2) := by decide +kernel
theorem dX12_report_69 : decode cX12_report 69 = .ok (.iload_n 1, 1) := by decide +kernel
theorem dX12_report_70 : decode cX12_report 70 = .ok (.iastore, 1) := by decide +kernel
theorem dX12_report_71 : decode cX12_report 71 = .ok (.aload_n 0, 1) := by decide +kernel
theorem dX12_report_72 : decode cX12_report 72 = .ok (.getfield 7, 3) := by decide +kernel
theorem dX12_report_75 : decode cX12_report 75 = .ok (.iload 4, 2) := by decide +kernel
theorem dX12_report_77 : decode cX12_report 77 = .ok (.iconst 1, 1) := by decide +kernel
theorem dX12_report_78 : decode cX12_report 78 = .ok (.iadd, 1) := by decide +kernel
theorem dX12_report_79 : decode cX12_report 79 = .ok (.iload_n 2, 1) := by decide +kernel
theorem dX12_report_80 : decode cX12_report 80 = .ok (.iastore, 1) := by decide +kernel
theorem dX12_report_81 : decode cX12_report 81 = .ok (.aload_n 0, 1) := by decide +kernel
theorem dX12_report_82 : decode cX12_report 82 = .ok (.getfield 7, 3) := by decide +kernel
theorem dX12_report_85 : decode cX12_report 85 = .ok (.iload 4, 2) := by decide +kernel
theorem dX12_report_87 : decode cX12_report 87 = .ok (.iconst 2, 1) := by decide +kernel
theorem dX12_report_88 : decode cX12_report 88 = .ok (.iadd, 1) := by decide +kernel
theorem dX12_report_89 : decode cX12_report 89 = .ok (.iload_n 3, 1) := by decide +kernel
theorem dX12_report_90 : decode cX12_report 90 = .ok (.iastore, 1) := by decide +kernel
theorem dX12_report_91 : decode cX12_report 91 = .ok (.aload_n 0, 1) := by decide +kernel
theorem dX12_report_92 : decode cX12_report 92 = .ok (.getfield 7, 3) := by decide +kernel
theorem dX12_report_95 : decode cX12_report 95 = .ok (.bipush 6, 2) := by decide +kernel
theorem dX12_report_97 : decode cX12_report 97 = .ok (.dup2, 1) := by decide +kernel
theorem dX12_report_98 : decode cX12_report 98 = .ok (.iaload, 1) := by decide +kernel
theorem dX12_report_99 : decode cX12_report 99 = .ok (.iconst 1, 1) := by decide +kernel
theorem dX12_report_100 : decode cX12_report 100 = .ok (.iadd, 1) := by decide +kernel
theorem dX12_report_101 : decode cX12_report 101 = .ok (.iastore, 1) := by decide +kernel
theorem dX12_report_102 : decode cX12_report 102 = .ok (.aload_n 0, 1) := by decide +kernel
theorem dX12_report_103 : decode cX12_report 103 = .ok (.getfield 7, 3) := by decide +kernel
theorem dX12_report_106 : decode cX12_report 106 = .ok (.bipush 6, 2) := by decide +kernel
theorem dX12_report_108 : decode cX12_report 108 = .ok (.iaload, 1) := by decide +kernel
theorem dX12_report_109 : decode cX12_report 109 = .ok (.iconst 1, 1) := by decide +kernel
theorem dX12_report_110 : decode cX12_report 110 = .ok (.isub, 1) := by decide +kernel
theorem dX12_report_111 : decode cX12_report 111 = .ok (.ireturn, 1) := by decide +kernel
theorem dX12_forget_0 : decode cX12_forget 0 = .ok (.aload_n 0, 1) := by decide +kernel
theorem dX12_forget_1 : decode cX12_forget 1 = .ok (.bipush 6, 2) := by decide +kernel
theorem dX12_forget_3 : decode cX12_forget 3 = .ok (.iconst 0, 1) := by decide +kernel
theorem dX12_forget_4 : decode cX12_forget 4 = .ok (.invokevirtual 108, 3) := by decide +kernel
theorem dX12_forget_7 : decode cX12_forget 7 = .ok (.ireturn, 1) := by decide +kernel
theorem dX12_isSoBy_0 : decode cX12_isSoBy 0 = .ok (.bipush 54, 2) := by decide +kernel
theorem dX12_isSoBy_2 : decode cX12_isSoBy 2 = .ok (.iconst 3, 1) := by decide +kernel
theorem dX12_isSoBy_3 : decode cX12_isSoBy 3 = .ok (.iload_n 1, 1) := by decide +kernel
theorem dX12_isSoBy_4 : decode cX12_isSoBy 4 = .ok (.imul, 1) := by decide +kernel
theorem dX12_isSoBy_5 : decode cX12_isSoBy 5 = .ok (.iadd, 1) := by decide +kernel
theorem dX12_isSoBy_6 : decode cX12_isSoBy 6 = .ok (.istore 4, 2) := by decide +kernel
theorem dX12_isSoBy_8 : decode cX12_isSoBy 8 = .ok (.iload_n 3, 1) := by decide +kernel
theorem dX12_isSoBy_9 : decode cX12_isSoBy 9 = .ok (.istore 5, 2) := by decide +kernel
theorem dX12_isSoBy_11 : decode cX12_isSoBy 11 = .ok (.iconst 0, 1) := by decide +kernel
theorem dX12_isSoBy_12 : decode cX12_isSoBy 12 = .ok (.istore 6, 2) := by decide +kernel
theorem dX12_isSoBy_14 : decode cX12_isSoBy 14 = .ok (.iload 6, 2) := by decide +kernel
theorem dX12_isSoBy_16 : decode cX12_isSoBy 16 = .ok (.aload_n 0, 1) := by decide +kernel
theorem dX12_isSoBy_17 : decode cX12_isSoBy 17 = .ok (.getfield 7, 3) := by decide +kernel
theorem dX12_isSoBy_20 : decode cX12_isSoBy 20 = .ok (.iload 4, 2) := by decide +kernel
theorem dX12_isSoBy_22 : decode cX12_isSoBy 22 = .ok (.iaload, 1) := by decide +kernel
theorem dX12_isSoBy_23 : decode cX12_isSoBy 23 = .ok (.if_icmp .ge 27, 3) := by decide +kernel
theorem dX12_isSoBy_26 : decode cX12_isSoBy 26 = .ok (.aload_n 0, 1) := by decide +kernel
theorem dX12_isSoBy_27 : decode cX12_isSoBy 27 = .ok (.iload 5, 2) := by decide +kernel
theorem dX12_isSoBy_29 : decode cX12_isSoBy 29 = .ok (.iload_n 2, 1) := by decide +kernel
theorem dX12_isSoBy_30 : decode cX12_isSoBy 30 = .ok (.bipush 6, 2) := by decide +kernel
theorem dX12_isSoBy_32 : decode cX12_isSoBy 32 = .ok (.iload 6, 2) := by decide +kernel
theorem dX12_isSoBy_34 : decode cX12_isSoBy 34 = .ok (.invokestatic 86, 3) := by decide +kernel
theorem dX12_isSoBy_37 : decode cX12_isSoBy 37 = .ok (.iload 6, 2) := by decide +kernel
theorem dX12_isSoBy_39 : decode cX12_isSoBy 39 = .ok (.invokevirtual 147, 3) := by decide +kernel
theorem dX12_isSoBy_42 : decode cX12_isSoBy 42 = .ok (.istore 5, 2) := by decide +kernel
theorem dX12_isSoBy_44 : decode cX12_isSoBy 44 = .ok (.iinc 6 1, 3) := by decide +kernel
theorem dX12_isSoBy_47 : decode cX12_isSoBy 47 = .ok (.goto (-33), 3) := by decide +kernel
theorem dX12_isSoBy_50 : decode cX12_isSoBy 50 = .ok (.iload 5, 2) := by decide +kernel
theorem dX12_isSoBy_52 : decode cX12_isSoBy 52 = .ok (.i2l, 1) := by decide +kernel
theorem dX12_isSoBy_53 : decode cX12_isSoBy 53 = .ok (.aload_n 0, 1) := by decide +kernel
theorem dX12_isSoBy_54 : decode cX12_isSoBy 54 = .ok (.getfield 7, 3) := by decide +kernel
theorem dX12_isSoBy_57 : decode cX12_isSoBy 57 = .ok (.iload 4, 2) := by decide +kernel
theorem dX12_isSoBy_59 : decode cX12_isSoBy 59 = .ok (.iconst 1, 1) := by decide +kernel
theorem dX12_isSoBy_60 : decode cX12_isSoBy 60 = .ok (.iadd, 1) := by decide +kernel
theorem dX12_isSoBy_61 : decode cX12_isSoBy 61 = .ok (.iaload, 1) := by decide +kernel
theorem dX12_isSoBy_62 : decode cX12_isSoBy 62 = .ok (.i2l, 1) := by decide +kernel
theorem dX12_isSoBy_63 : decode cX12_isSoBy 63 = .ok (.aload_n 0, 1) := by decide +kernel
theorem dX12_isSoBy_64 : decode cX12_isSoBy 64 = .ok (.getfield 7, 3) := by decide +kernel
theorem dX12_isSoBy_67 : decode cX12_isSoBy 67 = .ok (.iload 4, 2) := by decide +kernel
theorem dX12_isSoBy_69 : decode cX12_isSoBy 69 = .ok (.iconst 2, 1) := by decide +kernel
theorem dX12_isSoBy_70 : decode cX12_isSoBy 70 = .ok (.iadd, 1) := by decide +kernel
theorem dX12_isSoBy_71 : decode cX12_isSoBy 71 = .ok (.iaload, 1) := by decide +kernel
theorem dX12_isSoBy_72 : decode cX12_isSoBy 72 = .ok (.i2l, 1) := by decide +kernel
theorem dX12_isSoBy_73 : decode cX12_isSoBy 73 = .ok (.invokestatic 61, 3) := by decide +kernel
theorem dX12_isSoBy_76 : decode cX12_isSoBy 76 = .ok (.ireturn, 1) := by decide +kernel
theorem dX12_isFit_0 : decode cX12_isFit 0 = .ok (.iconst 1, 1) := by decide +kernel
theorem dX12_isFit_1 : decode cX12_isFit 1 = .ok (.istore 4, 2) := by decide +kernel
theorem dX12_isFit_3 : decode cX12_isFit 3 = .ok (.iconst 0, 1) := by decide +kernel
theorem dX12_isFit_4 : decode cX12_isFit 4 = .ok (.istore 5, 2) := by decide +kernel
theorem dX12_isFit_6 : decode cX12_isFit 6 = .ok (.iload 5, 2) := by decide +kernel
theorem dX12_isFit_8 : decode cX12_isFit 8 = .ok (.aload_n 0, 1) := by decide +kernel
theorem dX12_isFit_9 : decode cX12_isFit 9 = .ok (.getfield 7, 3) := by decide +kernel
theorem dX12_isFit_12 : decode cX12_isFit 12 = .ok (.bipush 6, 2) := by decide +kernel
theorem dX12_isFit_14 : decode cX12_isFit 14 = .ok (.iaload, 1) := by decide +kernel
theorem dX12_isFit_15 : decode cX12_isFit 15 = .ok (.if_icmp .ge 38, 3) := by decide +kernel
theorem dX12_isFit_18 : decode cX12_isFit 18 = .ok (.iload 4, 2) := by decide +kernel
theorem dX12_isFit_20 : decode cX12_isFit 20 = .ok (.ifCond .eq 33, 3) := by decide +kernel
theorem dX12_isFit_23 : decode cX12_isFit 23 = .ok (.iload 5, 2) := by decide +kernel
theorem dX12_isFit_25 : decode cX12_isFit 25 = .ok (.iload_n 3, 1) := by decide +kernel
theorem dX12_isFit_26 : decode cX12_isFit 26 = .ok (.if_icmp .eq 14, 3) := by decide +kernel
theorem dX12_isFit_29 : decode cX12_isFit 29 = .ok (.aload_n 0, 1) := by decide +kernel
theorem dX12_isFit_30 : decode cX12_isFit 30 = .ok (.iload 5, 2) := by decide +kernel
theorem dX12_isFit_32 : decode cX12_isFit 32 = .ok (.iload_n 1, 1) := by decide +kernel
theorem dX12_isFit_33 : decode cX12_isFit 33 = .ok (.iload_n 2, 1) := by decide +kernel
theorem dX12_isFit_34 : decode cX12_isFit 34 = .ok (.invokevirtual 246, 3) := by decide +kernel
theorem dX12_isFit_37 : decode cX12_isFit 37 = .ok (.ifCond .eq 7, 3) := by decide +kernel
theorem dX12_isFit_40 : decode cX12_isFit 40 = .ok (.iconst 1, 1) := by decide +kernel
theorem dX12_isFit_41 : decode cX12_isFit 41 = .ok (.goto 4, 3) := by decide +kernel
theorem dX12_isFit_44 : decode cX12_isFit 44 = .ok (.iconst 0, 1) := by decide +kernel
theorem dX12_isFit_45 : decode cX12_isFit 45 = .ok (.istore 4, 2) := by decide +kernel
theorem dX12_isFit_47 : decode cX12_isFit 47 = .ok (.iinc 5 1, 3) := by decide +kernel
theorem dX12_isFit_50 : decode cX12_isFit 50 = .ok (.goto (-44), 3) := by decide +kernel
theorem dX12_isFit_53 : decode cX12_isFit 53 = .ok (.iload 4, 2) := by decide +kernel
theorem dX12_isFit_55 : decode cX12_isFit 55 = .ok (.ireturn, 1) := by decide +kernel
theorem dX12_findFits_0 : decode cX12_findFits 0 = .ok (.aload_n 0, 1) := by decide +kernel
theorem dX12_findFits_1 : decode cX12_findFits 1 = .ok (.iconst 0, 1) := by decide +kernel
theorem dX12_findFits_2 : decode cX12_findFits 2 = .ok (.putfield 249, 3) := by decide +kernel
theorem dX12_findFits_5 : decode cX12_findFits 5 = .ok (.iconst 0, 1) := by decide +kernel
theorem dX12_findFits_6 : decode cX12_findFits 6 = .ok (.istore_n 2, 1) := by decide +kernel
theorem dX12_findFits_7 : decode cX12_findFits 7 = .ok (.iload_n 2, 1) := by decide +kernel
theorem dX12_findFits_8 : decode cX12_findFits 8 = .ok (.bipush 80, 2) := by decide +kernel
theorem dX12_findFits_10 : decode cX12_findFits 10 = .ok (.if_icmp .ge 82, 3) := by decide +kernel
theorem dX12_findFits_13 : decode cX12_findFits 13 = .ok (.iconst 1, 1) := by decide +kernel
theorem dX12_findFits_14 : decode cX12_findFits 14 = .ok (.iload_n 2, 1) := by decide +kernel
theorem dX12_findFits_15 : decode cX12_findFits 15 = .ok (.bipush 16, 2) := by decide +kernel
theorem dX12_findFits_17 : decode cX12_findFits 17 = .ok (.idiv, 1) := by decide +kernel
theorem dX12_findFits_18 : decode cX12_findFits 18 = .ok (.iadd, 1) := by decide +kernel
theorem dX12_findFits_19 : decode cX12_findFits 19 = .ok (.istore_n 3, 1) := by decide +kernel
theorem dX12_findFits_20 : decode cX12_findFits 20 = .ok (.iload_n 2, 1) := by decide +kernel
theorem dX12_findFits_21 : decode cX12_findFits 21 = .ok (.bipush 16, 2) := by decide +kernel
theorem dX12_findFits_23 : decode cX12_findFits 23 = .ok (.irem, 1) := by decide +kernel
theorem dX12_findFits_24 : decode cX12_findFits 24 = .ok (.istore 4, 2) := by decide +kernel
theorem dX12_findFits_26 : decode cX12_findFits 26 = .ok (.aload_n 0, 1) := by decide +kernel
theorem dX12_findFits_27 : decode cX12_findFits 27 = .ok (.iload_n 3, 1) := by decide +kernel
theorem dX12_findFits_28 : decode cX12_findFits 28 = .ok (.iload 4, 2) := by decide +kernel
theorem dX12_findFits_30 : decode cX12_findFits 30 = .ok (.iload_n 1, 1) := by decide +kernel
theorem dX12_findFits_31 : decode cX12_findFits 31 = .ok (.invokevirtual 252, 3) := by decide +kernel
theorem dX12_findFits_34 : decode cX12_findFits 34 = .ok (.ifCond .eq 52, 3) := by decide +kernel
theorem dX12_findFits_37 : decode cX12_findFits 37 = .ok (.aload_n 0, 1) := by decide +kernel
theorem dX12_findFits_38 : decode cX12_findFits 38 = .ok (.aload_n 0, 1) := by decide +kernel
theorem dX12_findFits_39 : decode cX12_findFits 39 = .ok (.getfield 249, 3) := by decide +kernel
theorem dX12_findFits_42 : decode cX12_findFits 42 = .ok (.ifCond .ne 7, 3) := by decide +kernel
theorem dX12_findFits_45 : decode cX12_findFits 45 = .ok (.iload_n 3, 1) := by decide +kernel
theorem dX12_findFits_46 : decode cX12_findFits 46 = .ok (.goto 7, 3) := by decide +kernel
theorem dX12_findFits_49 : decode cX12_findFits 49 = .ok (.aload_n 0, 1) := by decide +kernel
theorem dX12_findFits_50 : decode cX12_findFits 50 = .ok (.getfield 255, 3) := by decide +kernel
theorem dX12_findFits_53 : decode cX12_findFits 53 = .ok (.putfield 255, 3) := by decide +kernel
theorem dX12_findFits_56 : decode cX12_findFits 56 = .ok (.aload_n 0, 1) := by decide +kernel
theorem dX12_findFits_57 : decode cX12_findFits 57 = .ok (.aload_n 0, 1) := by decide +kernel
theorem dX12_findFits_58 : decode cX12_findFits 58 = .ok (.getfield 249, 3) := by decide +kernel
theorem dX12_findFits_61 : decode cX12_findFits 61 = .ok (.ifCond .ne 8, 3) := by decide +kernel
theorem dX12_findFits_64 : decode cX12_findFits 64 = .ok (.iload 4, 2) := by decide +kernel
theorem dX12_findFits_66 : decode cX12_findFits 66 = .ok (.goto 7, 3) := by decide +kernel
theorem dX12_findFits_69 : decode cX12_findFits 69 = .ok (.aload_n 0, 1) := by decide +kernel
theorem dX12_findFits_70 : decode cX12_findFits 70 = .ok (.getfield 258, 3) := by decide +kernel
theorem dX12_findFits_73 : decode cX12_findFits 73 = .ok (.putfield 258, 3) := by decide +kernel
theorem dX12_findFits_76 : decode cX12_findFits 76 = .ok (.aload_n 0, 1) := by decide +kernel
theorem dX12_findFits_77 : decode cX12_findFits 77 = .ok (.dup, 1) := by decide +kernel
theorem dX12_findFits_78 : decode cX12_findFits 78 = .ok (.getfield 249, 3) := by decide +kernel
theorem dX12_findFits_81 : decode cX12_findFits 81 = .ok (.iconst 1, 1) := by decide +kernel
theorem dX12_findFits_82 : decode cX12_findFits 82 = .ok (.iadd, 1) := by decide +kernel
theorem dX12_findFits_83 : decode cX12_findFits 83 = .ok (.putfield 249, 3) := by decide +kernel
theorem dX12_findFits_86 : decode cX12_findFits 86 = .ok (.iinc 2 1, 3) := by decide +kernel
theorem dX12_findFits_89 : decode cX12_findFits 89 = .ok (.goto (-82), 3) := by decide +kernel
theorem dX12_findFits_92 : decode cX12_findFits 92 = .ok (.return_, 1) := by decide +kernel
theorem dX12_span_0 : decode cX12_span 0 = .ok (.iload_n 1, 1) := by decide +kernel
theorem dX12_span_1 : decode cX12_span 1 = .ok (.i2l, 1) := by decide +kernel
theorem dX12_span_2 : decode cX12_span 2 = .ok (.lconst 0, 1) := by decide +kernel
theorem dX12_span_3 : decode cX12_span 3 = .ok (.ldc2_w 114, 3) := by decide +kernel
theorem dX12_span_6 : decode cX12_span 6 = .ok (.invokestatic 61, 3) := by decide +kernel
theorem dX12_span_9 : decode cX12_span 9 = .ok (.ifCond .ne 5, 3) := by decide +kernel
theorem dX12_span_12 : decode cX12_span 12 = .ok (.iconst (-1), 1) := by decide +kernel
theorem dX12_span_13 : decode cX12_span 13 = .ok (.ireturn, 1) := by decide +kernel
theorem dX12_span_14 : decode cX12_span 14 = .ok (.aload_n 0, 1) := by decide +kernel
theorem dX12_span_15 : decode cX12_span 15 = .ok (.iconst (-1), 1) := by decide +kernel
theorem dX12_span_16 : decode cX12_span 16 = .ok (.invokevirtual 261, 3) := by decide +kernel
theorem dX12_span_19 : decode cX12_span 19 = .ok (.iload_n 1, 1) := by decide +kernel
theorem dX12_span_20 : decode cX12_span 20 = .ok (.ifCond .ne 10, 3) := by decide +kernel
theorem dX12_span_23 : decode cX12_span 23 = .ok (.aload_n 0, 1) := by decide +kernel
theorem dX12_span_24 : decode cX12_span 24 = .ok (.getfield 249, 3) := by decide +kernel
theorem dX12_span_27 : decode cX12_span 27 = .ok (.goto 31, 3) := by decide +kernel
theorem dX12_span_30 : decode cX12_span 30 = .ok (.aload_n 0, 1) := by decide +kernel
theorem dX12_span_31 : decode cX12_span 31 = .ok (.getfield 249, 3) := by decide +kernel
theorem dX12_span_34 : decode cX12_span 34 = .ok (.ifCond .ne 8, 3) := by decide +kernel
theorem dX12_span_37 : decode cX12_span 37 = .ok (.bipush (-3), 2) := by decide +kernel
theorem dX12_span_39 : decode cX12_span 39 = .ok (.goto 19, 3) := by decide +kernel
theorem dX12_span_42 : decode cX12_span 42 = .ok (.iload_n 1, 1) := by decide +kernel
theorem dX12_span_43 : decode cX12_span 43 = .ok (.iconst 1, 1) := by decide +kernel
theorem dX12_span_44 : decode cX12_span 44 = .ok (.if_icmp .ne 10, 3) := by decide +kernel
theorem dX12_span_47 : decode cX12_span 47 = .ok (.aload_n 0, 1) := by decide +kernel
theorem dX12_span_48 : decode cX12_span 48 = .ok (.getfield 255, 3) := by decide +kernel
theorem dX12_span_51 : decode cX12_span 51 = .ok (.goto 7, 3) := by decide +kernel
theorem dX12_span_54 : decode cX12_span 54 = .ok (.aload_n 0, 1) := by decide +kernel
theorem dX12_span_55 : decode cX12_span 55 = .ok (.getfield 258, 3) := by decide +kernel
theorem dX12_span_58 : decode cX12_span 58 = .ok (.ireturn, 1) := by decide +kernel
theorem dX12_liar_0 : decode cX12_liar 0 = .ok (.aload_n 0, 1) := by decide +kernel
theorem dX12_liar_1 : decode cX12_liar 1 = .ok (.iconst (-1), 1) := by decide +kernel
theorem dX12_liar_2 : decode cX12_liar 2 = .ok (.invokevirtual 261, 3) := by decide +kernel
theorem dX12_liar_5 : decode cX12_liar 5 = .ok (.aload_n 0, 1) := by decide +kernel
theorem dX12_liar_6 : decode cX12_liar 6 = .ok (.getfield 249, 3) := by decide +kernel
theorem dX12_liar_9 : decode cX12_liar 9 = .ok (.ifCond .ne 7, 3) := by decide +kernel
theorem dX12_liar_12 : decode cX12_liar 12 = .ok (.iconst 1, 1) := by decide +kernel
theorem dX12_liar_13 : decode cX12_liar 13 = .ok (.goto 4, 3) := by decide +kernel
theorem dX12_liar_16 : decode cX12_liar 16 = .ok (.iconst 0, 1) := by decide +kernel
theorem dX12_liar_17 : decode cX12_liar 17 = .ok (.istore_n 1, 1) := by decide +kernel
theorem dX12_liar_18 : decode cX12_liar 18 = .ok (.iconst 0, 1) := by decide +kernel
theorem dX12_liar_19 : decode cX12_liar 19 = .ok (.istore_n 2, 1) := by decide +kernel
theorem dX12_liar_20 : decode cX12_liar 20 = .ok (.iload_n 2, 1) := by decide +kernel
theorem dX12_liar_21 : decode cX12_liar 21 = .ok (.aload_n 0, 1) := by decide +kernel
theorem dX12_liar_22 : decode cX12_liar 22 = .ok (.getfield 7, 3) := by decide +kernel
theorem dX12_liar_25 : decode cX12_liar 25 = .ok (.bipush 6, 2) := by decide +kernel
theorem dX12_liar_27 : decode cX12_liar 27 = .ok (.iaload, 1) := by decide +kernel
theorem dX12_liar_28 : decode cX12_liar 28 = .ok (.if_icmp .ge 27, 3) := by decide +kernel
theorem dX12_liar_31 : decode cX12_liar 31 = .ok (.iload_n 1, 1) := by decide +kernel
theorem dX12_liar_32 : decode cX12_liar 32 = .ok (.ifCond .eq 23, 3) := by decide +kernel
theorem dX12_liar_35 : decode cX12_liar 35 = .ok (.aload_n 0, 1) := by decide +kernel
theorem dX12_liar_36 : decode cX12_liar 36 = .ok (.iload_n 2, 1) := by decide +kernel
theorem dX12_liar_37 : decode cX12_liar 37 = .ok (.invokevirtual 261, 3) := by decide +kernel
theorem dX12_liar_40 : decode cX12_liar 40 = .ok (.aload_n 0, 1) := by decide +kernel
theorem dX12_liar_41 : decode cX12_liar 41 = .ok (.getfield 249, 3) := by decide +kernel
theorem dX12_liar_44 : decode cX12_liar 44 = .ok (.ifCond .le 5, 3) := by decide +kernel
theorem dX12_liar_47 : decode cX12_liar 47 = .ok (.iload_n 2, 1) := by decide +kernel
theorem dX12_liar_48 : decode cX12_liar 48 = .ok (.ireturn, 1) := by decide +kernel
theorem dX12_liar_49 : decode cX12_liar 49 = .ok (.iinc 2 1, 3) := by decide +kernel
theorem dX12_liar_52 : decode cX12_liar 52 = .ok (.goto (-32), 3) := by decide +kernel
theorem dX12_liar_55 : decode cX12_liar 55 = .ok (.bipush (-3), 2) := by decide +kernel
theorem dX12_liar_57 : decode cX12_liar 57 = .ok (.ireturn, 1) := by decide +kernel
theorem dX12_seed_0 : decode cX12_seed 0 = .ok (.aload_n 0, 1) := by decide +kernel
theorem dX12_seed_1 : decode cX12_seed 1 = .ok (.bipush 7, 2) := by decide +kernel
theorem dX12_seed_3 : decode cX12_seed 3 = .ok (.iload_n 1, 1) := by decide +kernel
theorem dX12_seed_4 : decode cX12_seed 4 = .ok (.invokevirtual 108, 3) := by decide +kernel
theorem dX12_seed_7 : decode cX12_seed 7 = .ok (.ireturn, 1) := by decide +kernel
theorem dX12_byLot_0 : decode cX12_byLot 0 = .ok (.aload_n 0, 1) := by decide +kernel
theorem dX12_byLot_1 : decode cX12_byLot 1 = .ok (.getfield 7, 3) := by decide +kernel
theorem dX12_byLot_4 : decode cX12_byLot 4 = .ok (.bipush 7, 2) := by decide +kernel
theorem dX12_byLot_6 : decode cX12_byLot 6 = .ok (.aload_n 0, 1) := by decide +kernel
theorem dX12_byLot_7 : decode cX12_byLot 7 = .ok (.getfield 7, 3) := by decide +kernel
theorem dX12_byLot_10 : decode cX12_byLot 10 = .ok (.bipush 7, 2) := by decide +kernel
theorem dX12_byLot_12 : decode cX12_byLot 12 = .ok (.iaload, 1) := by decide +kernel
theorem dX12_byLot_13 : decode cX12_byLot 13 = .ok (.ldc_w 264, 3) := by decide +kernel
theorem dX12_byLot_16 : decode cX12_byLot 16 = .ok (.imul, 1) := by decide +kernel
theorem dX12_byLot_17 : decode cX12_byLot 17 = .ok (.sipush 12345, 3) := by decide +kernel
theorem dX12_byLot_20 : decode cX12_byLot 20 = .ok (.iadd, 1) := by decide +kernel
theorem dX12_byLot_21 : decode cX12_byLot 21 = .ok (.iastore, 1) := by decide +kernel
theorem dX12_byLot_22 : decode cX12_byLot 22 = .ok (.aload_n 0, 1) := by decide +kernel
theorem dX12_byLot_23 : decode cX12_byLot 23 = .ok (.aload_n 0, 1) := by decide +kernel
theorem dX12_byLot_24 : decode cX12_byLot 24 = .ok (.getfield 7, 3) := by decide +kernel
theorem dX12_byLot_27 : decode cX12_byLot 27 = .ok (.bipush 7, 2) := by decide +kernel
theorem dX12_byLot_29 : decode cX12_byLot 29 = .ok (.iaload, 1) := by decide +kernel
theorem dX12_byLot_30 : decode cX12_byLot 30 = .ok (.bipush 16, 2) := by decide +kernel
theorem dX12_byLot_32 : decode cX12_byLot 32 = .ok (.iushr, 1) := by decide +kernel
theorem dX12_byLot_33 : decode cX12_byLot 33 = .ok (.aload_n 0, 1) := by decide +kernel
theorem dX12_byLot_34 : decode cX12_byLot 34 = .ok (.getfield 7, 3) := by decide +kernel
theorem dX12_byLot_37 : decode cX12_byLot 37 = .ok (.iconst 0, 1) := by decide +kernel
theorem dX12_byLot_38 : decode cX12_byLot 38 = .ok (.iaload, 1) := by decide +kernel
theorem dX12_byLot_39 : decode cX12_byLot 39 = .ok (.iconst 1, 1) := by decide +kernel
theorem dX12_byLot_40 : decode cX12_byLot 40 = .ok (.iadd, 1) := by decide +kernel
theorem dX12_byLot_41 : decode cX12_byLot 41 = .ok (.irem, 1) := by decide +kernel
theorem dX12_byLot_42 : decode cX12_byLot 42 = .ok (.invokevirtual 159, 3) := by decide +kernel
theorem dX12_byLot_45 : decode cX12_byLot 45 = .ok (.ireturn, 1) := by decide +kernel
theorem dX12_lot_0 : decode cX12_lot 0 = .ok (.aload_n 0, 1) := by decide +kernel
theorem dX12_lot_1 : decode cX12_lot 1 = .ok (.invokevirtual 118, 3) := by decide +kernel
theorem dX12_lot_4 : decode cX12_lot 4 = .ok (.ifCond .eq 8, 3) := by decide +kernel
theorem dX12_lot_7 : decode cX12_lot 7 = .ok (.bipush (-4), 2) := by decide +kernel
theorem dX12_lot_9 : decode cX12_lot 9 = .ok (.goto 7, 3) := by decide +kernel
theorem dX12_lot_12 : decode cX12_lot 12 = .ok (.aload_n 0, 1) := by decide +kernel
theorem dX12_lot_13 : decode cX12_lot 13 = .ok (.invokevirtual 265, 3) := by decide +kernel
theorem dX12_lot_16 : decode cX12_lot 16 = .ok (.ireturn, 1) := by decide +kernel
theorem dX12_times_0 : decode cX12_times 0 = .ok (.iload_n 1, 1) := by decide +kernel
theorem dX12_times_1 : decode cX12_times 1 = .ok (.i2l, 1) := by decide +kernel
theorem dX12_times_2 : decode cX12_times 2 = .ok (.lconst 1, 1) := by decide +kernel
theorem dX12_times_3 : decode cX12_times 3 = .ok (.ldc2_w 268, 3) := by decide +kernel
theorem dX12_times_6 : decode cX12_times 6 = .ok (.invokestatic 61, 3) := by decide +kernel
theorem dX12_times_9 : decode cX12_times 9 = .ok (.ifCond .eq 15, 3) := by decide +kernel
theorem dX12_times_12 : decode cX12_times 12 = .ok (.iload_n 2, 1) := by decide +kernel
theorem dX12_times_13 : decode cX12_times 13 = .ok (.i2l, 1) := by decide +kernel
theorem dX12_times_14 : decode cX12_times 14 = .ok (.lconst 0, 1) := by decide +kernel
theorem dX12_times_15 : decode cX12_times 15 = .ok (.ldc2_w 270, 3) := by decide +kernel
theorem dX12_times_18 : decode cX12_times 18 = .ok (.invokestatic 61, 3) := by decide +kernel
theorem dX12_times_21 : decode cX12_times 21 = .ok (.ifCond .ne 5, 3) := by decide +kernel
theorem dX12_times_24 : decode cX12_times 24 = .ok (.iconst (-1), 1) := by decide +kernel
theorem dX12_times_25 : decode cX12_times 25 = .ok (.ireturn, 1) := by decide +kernel
theorem dX12_times_26 : decode cX12_times 26 = .ok (.aload_n 0, 1) := by decide +kernel
theorem dX12_times_27 : decode cX12_times 27 = .ok (.invokevirtual 162, 3) := by decide +kernel
theorem dX12_times_30 : decode cX12_times 30 = .ok (.iconst 0, 1) := by decide +kernel
theorem dX12_times_31 : decode cX12_times 31 = .ok (.istore_n 3, 1) := by decide +kernel
theorem dX12_times_32 : decode cX12_times 32 = .ok (.iconst 0, 1) := by decide +kernel
theorem dX12_times_33 : decode cX12_times 33 = .ok (.istore 4, 2) := by decide +kernel
theorem dX12_times_35 : decode cX12_times 35 = .ok (.iload 4, 2) := by decide +kernel
theorem dX12_times_37 : decode cX12_times 37 = .ok (.iload_n 1, 1) := by decide +kernel
theorem dX12_times_38 : decode cX12_times 38 = .ok (.if_icmp .ge 67, 3) := by decide +kernel
theorem dX12_times_41 : decode cX12_times 41 = .ok (.iconst 0, 1) := by decide +kernel
theorem dX12_times_42 : decode cX12_times 42 = .ok (.istore 5, 2) := by decide +kernel
theorem dX12_times_44 : decode cX12_times 44 = .ok (.aload_n 0, 1) := by decide +kernel
theorem dX12_times_45 : decode cX12_times 45 = .ok (.invokevirtual 118, 3) := by decide +kernel
theorem dX12_times_48 : decode cX12_times 48 = .ok (.ifCond .ne 15, 3) := by decide +kernel
theorem dX12_times_51 : decode cX12_times 51 = .ok (.iload 5, 2) := by decide +kernel
theorem dX12_times_53 : decode cX12_times 53 = .ok (.aload_n 0, 1) := by decide +kernel
theorem dX12_times_54 : decode cX12_times 54 = .ok (.invokevirtual 265, 3) := by decide +kernel
theorem dX12_times_57 : decode cX12_times 57 = .ok (.iadd, 1) := by decide +kernel
theorem dX12_times_58 : decode cX12_times 58 = .ok (.istore 5, 2) := by decide +kernel
theorem dX12_times_60 : decode cX12_times 60 = .ok (.goto (-16), 3) := by decide +kernel
theorem dX12_times_63 : decode cX12_times 63 = .ok (.iload_n 3, 1) := by decide +kernel
theorem dX12_times_64 : decode cX12_times 64 = .ok (.iload 5, 2) := by decide +kernel
theorem dX12_times_66 : decode cX12_times 66 = .ok (.iload_n 2, 1) := by decide +kernel
theorem dX12_times_67 : decode cX12_times 67 = .ok (.if_icmp .lt 7, 3) := by decide +kernel
theorem dX12_times_70 : decode cX12_times 70 = .ok (.iconst 1, 1) := by decide +kernel
theorem dX12_times_71 : decode cX12_times 71 = .ok (.goto 4, 3) := by decide +kernel
theorem dX12_times_74 : decode cX12_times 74 = .ok (.iconst 0, 1) := by decide +kernel
theorem dX12_times_75 : decode cX12_times 75 = .ok (.iadd, 1) := by decide +kernel
theorem dX12_times_76 : decode cX12_times 76 = .ok (.istore_n 3, 1) := by decide +kernel
theorem dX12_times_77 : decode cX12_times 77 = .ok (.aload_n 0, 1) := by decide +kernel
theorem dX12_times_78 : decode cX12_times 78 = .ok (.getfield 7, 3) := by decide +kernel
theorem dX12_times_81 : decode cX12_times 81 = .ok (.bipush 7, 2) := by decide +kernel
theorem dX12_times_83 : decode cX12_times 83 = .ok (.iaload, 1) := by decide +kernel
theorem dX12_times_84 : decode cX12_times 84 = .ok (.istore 6, 2) := by decide +kernel
theorem dX12_times_86 : decode cX12_times 86 = .ok (.aload_n 0, 1) := by decide +kernel
theorem dX12_times_87 : decode cX12_times 87 = .ok (.invokevirtual 168, 3) := by decide +kernel
theorem dX12_times_90 : decode cX12_times 90 = .ok (.aload_n 0, 1) := by decide +kernel
theorem dX12_times_91 : decode cX12_times 91 = .ok (.getfield 7, 3) := by decide +kernel
theorem dX12_times_94 : decode cX12_times 94 = .ok (.bipush 7, 2) := by decide +kernel
theorem dX12_times_96 : decode cX12_times 96 = .ok (.iload 6, 2) := by decide +kernel
theorem dX12_times_98 : decode cX12_times 98 = .ok (.iastore, 1) := by decide +kernel
theorem dX12_times_99 : decode cX12_times 99 = .ok (.iinc 4 1, 3) := by decide +kernel
theorem dX12_times_102 : decode cX12_times 102 = .ok (.goto (-67), 3) := by decide +kernel
theorem dX12_times_105 : decode cX12_times 105 = .ok (.aload_n 0, 1) := by decide +kernel
theorem dX12_times_106 : decode cX12_times 106 = .ok (.invokevirtual 168, 3) := by decide +kernel
theorem dX12_times_109 : decode cX12_times 109 = .ok (.iload_n 3, 1) := by decide +kernel
theorem dX12_times_110 : decode cX12_times 110 = .ok (.ireturn, 1) := by decide +kernel
theorem dX12_prove_0 : decode cX12_prove 0 = .ok (.iload_n 1, 1) := by decide +kernel
theorem dX12_prove_1 : decode cX12_prove 1 = .ok (.invokestatic 228, 3) := by decide +kernel
theorem dX12_prove_4 : decode cX12_prove 4 = .ok (.ifCond .ne 5, 3) := by decide +kernel
theorem dX12_prove_7 : decode cX12_prove 7 = .ok (.iconst (-1), 1) := by decide +kernel
theorem dX12_prove_8 : decode cX12_prove 8 = .ok (.ireturn, 1) := by decide +kernel
theorem dX12_prove_9 : decode cX12_prove 9 = .ok (.aload_n 0, 1) := by decide +kernel
theorem dX12_prove_10 : decode cX12_prove 10 = .ok (.aload_n 0, 1) := by decide +kernel
theorem dX12_prove_11 : decode cX12_prove 11 = .ok (.iload_n 1, 1) := by decide +kernel
theorem dX12_prove_12 : decode cX12_prove 12 = .ok (.iconst 0, 1) := by decide +kernel
theorem dX12_prove_13 : decode cX12_prove 13 = .ok (.invokevirtual 231, 3) := by decide +kernel
theorem dX12_prove_16 : decode cX12_prove 16 = .ok (.putfield 272, 3) := by decide +kernel
theorem dX12_prove_19 : decode cX12_prove 19 = .ok (.aload_n 0, 1) := by decide +kernel
theorem dX12_prove_20 : decode cX12_prove 20 = .ok (.invokevirtual 162, 3) := by decide +kernel
theorem dX12_prove_23 : decode cX12_prove 23 = .ok (.iconst 0, 1) := by decide +kernel
theorem dX12_prove_24 : decode cX12_prove 24 = .ok (.istore_n 2, 1) := by decide +kernel
theorem dX12_prove_25 : decode cX12_prove 25 = .ok (.iload_n 2, 1) := by decide +kernel
theorem dX12_prove_26 : decode cX12_prove 26 = .ok (.aload_n 0, 1) := by decide +kernel
theorem dX12_prove_27 : decode cX12_prove 27 = .ok (.getfield 272, 3) := by decide +kernel
theorem dX12_prove_30 : decode cX12_prove 30 = .ok (.if_icmp .ge 57, 3) := by decide +kernel
theorem dX12_prove_33 : decode cX12_prove 33 = .ok (.aload_n 0, 1) := by decide +kernel
theorem dX12_prove_34 : decode cX12_prove 34 = .ok (.getfield 34, 3) := by decide +kernel
theorem dX12_prove_37 : decode cX12_prove 37 = .ok (.iconst 3, 1) := by decide +kernel
theorem dX12_prove_38 : decode cX12_prove 38 = .ok (.iload_n 2, 1) := by decide +kernel
theorem dX12_prove_39 : decode cX12_prove 39 = .ok (.imul, 1) := by decide +kernel
theorem dX12_prove_40 : decode cX12_prove 40 = .ok (.aload_n 0, 1) := by decide +kernel
theorem dX12_prove_41 : decode cX12_prove 41 = .ok (.getfield 31, 3) := by decide +kernel
theorem dX12_prove_44 : decode cX12_prove 44 = .ok (.iload_n 2, 1) := by decide +kernel
theorem dX12_prove_45 : decode cX12_prove 45 = .ok (.iaload, 1) := by decide +kernel
theorem dX12_prove_46 : decode cX12_prove 46 = .ok (.iastore, 1) := by decide +kernel
theorem dX12_prove_47 : decode cX12_prove 47 = .ok (.aload_n 0, 1) := by decide +kernel
theorem dX12_prove_48 : decode cX12_prove 48 = .ok (.getfield 34, 3) := by decide +kernel
theorem dX12_prove_51 : decode cX12_prove 51 = .ok (.iconst 3, 1) := by decide +kernel
theorem dX12_prove_52 : decode cX12_prove 52 = .ok (.iload_n 2, 1) := by decide +kernel
theorem dX12_prove_53 : decode cX12_prove 53 = .ok (.imul, 1) := by decide +kernel
theorem dX12_prove_54 : decode cX12_prove 54 = .ok (.iconst 1, 1) := by decide +kernel
theorem dX12_prove_55 : decode cX12_prove 55 = .ok (.iadd, 1) := by decide +kernel
theorem dX12_prove_56 : decode cX12_prove 56 = .ok (.aload_n 0, 1) := by decide +kernel
theorem dX12_prove_57 : decode cX12_prove 57 = .ok (.aload_n 0, 1) := by decide +kernel
theorem dX12_prove_58 : decode cX12_prove 58 = .ok (.getfield 31, 3) := by decide +kernel
theorem dX12_prove_61 : decode cX12_prove 61 = .ok (.iload_n 2, 1) := by decide +kernel
theorem dX12_prove_62 : decode cX12_prove 62 = .ok (.iaload, 1) := by decide +kernel
theorem dX12_prove_63 : decode cX12_prove 63 = .ok (.invokevirtual 159, 3) := by decide +kernel
theorem dX12_prove_66 : decode cX12_prove 66 = .ok (.iastore, 1) := by decide +kernel
theorem dX12_prove_67 : decode cX12_prove 67 = .ok (.aload_n 0, 1) := by decide +kernel
theorem dX12_prove_68 : decode cX12_prove 68 = .ok (.getfield 34, 3) := by decide +kernel
theorem dX12_prove_71 : decode cX12_prove 71 = .ok (.iconst 3, 1) := by decide +kernel
theorem dX12_prove_72 : decode cX12_prove 72 = .ok (.iload_n 2, 1) := by decide +kernel
theorem dX12_prove_73 : decode cX12_prove 73 = .ok (.imul, 1) := by decide +kernel
theorem dX12_prove_74 : decode cX12_prove 74 = .ok (.iconst 2, 1) := by decide +kernel
theorem dX12_prove_75 : decode cX12_prove 75 = .ok (.iadd, 1) := by decide +kernel
theorem dX12_prove_76 : decode cX12_prove 76 = .ok (.aload_n 0, 1) := by decide +kernel
theorem dX12_prove_77 : decode cX12_prove 77 = .ok (.invokevirtual 122, 3) := by decide +kernel
theorem dX12_prove_80 : decode cX12_prove 80 = .ok (.iastore, 1) := by decide +kernel
theorem dX12_prove_81 : decode cX12_prove 81 = .ok (.iinc 2 1, 3) := by decide +kernel
theorem dX12_prove_84 : decode cX12_prove 84 = .ok (.goto (-59), 3) := by decide +kernel
theorem dX12_prove_87 : decode cX12_prove 87 = .ok (.aload_n 0, 1) := by decide +kernel
theorem dX12_prove_88 : decode cX12_prove 88 = .ok (.invokevirtual 168, 3) := by decide +kernel
theorem dX12_prove_91 : decode cX12_prove 91 = .ok (.aload_n 0, 1) := by decide +kernel
theorem dX12_prove_92 : decode cX12_prove 92 = .ok (.getfield 272, 3) := by decide +kernel
theorem dX12_prove_95 : decode cX12_prove 95 = .ok (.ireturn, 1) := by decide +kernel
theorem dX12_isRow_0 : decode cX12_isRow 0 = .ok (.iload_n 1, 1) := by decide +kernel
theorem dX12_isRow_1 : decode cX12_isRow 1 = .ok (.i2l, 1) := by decide +kernel
theorem dX12_isRow_2 : decode cX12_isRow 2 = .ok (.lconst 0, 1) := by decide +kernel
theorem dX12_isRow_3 : decode cX12_isRow 3 = .ok (.aload_n 0, 1) := by decide +kernel
theorem dX12_isRow_4 : decode cX12_isRow 4 = .ok (.getfield 272, 3) := by decide +kernel
theorem dX12_isRow_7 : decode cX12_isRow 7 = .ok (.iconst 1, 1) := by decide +kernel
theorem dX12_isRow_8 : decode cX12_isRow 8 = .ok (.isub, 1) := by decide +kernel
theorem dX12_isRow_9 : decode cX12_isRow 9 = .ok (.i2l, 1) := by decide +kernel
theorem dX12_isRow_10 : decode cX12_isRow 10 = .ok (.invokestatic 61, 3) := by decide +kernel
theorem dX12_isRow_13 : decode cX12_isRow 13 = .ok (.ifCond .eq 19, 3) := by decide +kernel
theorem dX12_isRow_16 : decode cX12_isRow 16 = .ok (.iload_n 2, 1) := by decide +kernel
theorem dX12_isRow_17 : decode cX12_isRow 17 = .ok (.i2l, 1) := by decide +kernel
theorem dX12_isRow_18 : decode cX12_isRow 18 = .ok (.lconst 0, 1) := by decide +kernel
theorem dX12_isRow_19 : decode cX12_isRow 19 = .ok (.ldc2_w 114, 3) := by decide +kernel
theorem dX12_isRow_22 : decode cX12_isRow 22 = .ok (.invokestatic 61, 3) := by decide +kernel
theorem dX12_isRow_25 : decode cX12_isRow 25 = .ok (.ifCond .eq 7, 3) := by decide +kernel
theorem dX12_isRow_28 : decode cX12_isRow 28 = .ok (.iconst 1, 1) := by decide +kernel
theorem dX12_isRow_29 : decode cX12_isRow 29 = .ok (.goto 4, 3) := by decide +kernel
theorem dX12_isRow_32 : decode cX12_isRow 32 = .ok (.iconst 0, 1) := by decide +kernel
theorem dX12_isRow_33 : decode cX12_isRow 33 = .ok (.ireturn, 1) := by decide +kernel
theorem dX12_row_0 : decode cX12_row 0 = .ok (.aload_n 0, 1) := by decide +kernel
theorem dX12_row_1 : decode cX12_row 1 = .ok (.iload_n 1, 1) := by decide +kernel
theorem dX12_row_2 : decode cX12_row 2 = .ok (.iload_n 2, 1) := by decide +kernel
theorem dX12_row_3 : decode cX12_row 3 = .ok (.invokevirtual 275, 3) := by decide +kernel
theorem dX12_row_6 : decode cX12_row 6 = .ok (.ifCond .eq 16, 3) := by decide +kernel
theorem dX12_row_9 : decode cX12_row 9 = .ok (.aload_n 0, 1) := by decide +kernel
theorem dX12_row_10 : decode cX12_row 10 = .ok (.getfield 34, 3) := by decide +kernel
theorem dX12_row_13 : decode cX12_row 13 = .ok (.iconst 3, 1) := by decide +kernel
theorem dX12_row_14 : decode cX12_row 14 = .ok (.iload_n 1, 1) := by decide +kernel
theorem dX12_row_15 : decode cX12_row 15 = .ok (.imul, 1) := by decide +kernel
theorem dX12_row_16 : decode cX12_row 16 = .ok (.iload_n 2, 1) := by decide +kernel
theorem dX12_row_17 : decode cX12_row 17 = .ok (.iadd, 1) := by decide +kernel
theorem dX12_row_18 : decode cX12_row 18 = .ok (.iaload, 1) := by decide +kernel
theorem dX12_row_19 : decode cX12_row 19 = .ok (.goto 5, 3) := by decide +kernel
theorem dX12_row_22 : decode cX12_row 22 = .ok (.bipush (-9), 2) := by decide +kernel
theorem dX12_row_24 : decode cX12_row 24 = .ok (.ireturn, 1) := by decide +kernel
theorem dX12_alterRow_0 : decode cX12_alterRow 0 = .ok (.aload_n 0, 1) := by decide +kernel
theorem dX12_alterRow_1 : decode cX12_alterRow 1 = .ok (.iload_n 1, 1) := by decide +kernel
theorem dX12_alterRow_2 : decode cX12_alterRow 2 = .ok (.iload_n 2, 1) := by decide +kernel
theorem dX12_alterRow_3 : decode cX12_alterRow 3 = .ok (.invokevirtual 275, 3) := by decide +kernel
theorem dX12_alterRow_6 : decode cX12_alterRow 6 = .ok (.ifCond .ne 6, 3) := by decide +kernel
theorem dX12_alterRow_9 : decode cX12_alterRow 9 = .ok (.bipush (-9), 2) := by decide +kernel
theorem dX12_alterRow_11 : decode cX12_alterRow 11 = .ok (.ireturn, 1) := by decide +kernel
theorem dX12_alterRow_12 : decode cX12_alterRow 12 = .ok (.aload_n 0, 1) := by decide +kernel
theorem dX12_alterRow_13 : decode cX12_alterRow 13 = .ok (.getfield 34, 3) := by decide +kernel
theorem dX12_alterRow_16 : decode cX12_alterRow 16 = .ok (.iconst 3, 1) := by decide +kernel
theorem dX12_alterRow_17 : decode cX12_alterRow 17 = .ok (.iload_n 1, 1) := by decide +kernel
theorem dX12_alterRow_18 : decode cX12_alterRow 18 = .ok (.imul, 1) := by decide +kernel
theorem dX12_alterRow_19 : decode cX12_alterRow 19 = .ok (.iload_n 2, 1) := by decide +kernel
theorem dX12_alterRow_20 : decode cX12_alterRow 20 = .ok (.iadd, 1) := by decide +kernel
theorem dX12_alterRow_21 : decode cX12_alterRow 21 = .ok (.iaload, 1) := by decide +kernel
theorem dX12_alterRow_22 : decode cX12_alterRow 22 = .ok (.istore 4, 2) := by decide +kernel
theorem dX12_alterRow_24 : decode cX12_alterRow 24 = .ok (.aload_n 0, 1) := by decide +kernel
theorem dX12_alterRow_25 : decode cX12_alterRow 25 = .ok (.getfield 34, 3) := by decide +kernel
theorem dX12_alterRow_28 : decode cX12_alterRow 28 = .ok (.iconst 3, 1) := by decide +kernel
theorem dX12_alterRow_29 : decode cX12_alterRow 29 = .ok (.iload_n 1, 1) := by decide +kernel
theorem dX12_alterRow_30 : decode cX12_alterRow 30 = .ok (.imul, 1) := by decide +kernel
theorem dX12_alterRow_31 : decode cX12_alterRow 31 = .ok (.iload_n 2, 1) := by decide +kernel
theorem dX12_alterRow_32 : decode cX12_alterRow 32 = .ok (.iadd, 1) := by decide +kernel
theorem dX12_alterRow_33 : decode cX12_alterRow 33 = .ok (.iload_n 3, 1) := by decide +kernel
theorem dX12_alterRow_34 : decode cX12_alterRow 34 = .ok (.iastore, 1) := by decide +kernel
theorem dX12_alterRow_35 : decode cX12_alterRow 35 = .ok (.iload 4, 2) := by decide +kernel
theorem dX12_alterRow_37 : decode cX12_alterRow 37 = .ok (.ireturn, 1) := by decide +kernel
theorem dX12_isAct_0 : decode cX12_isAct 0 = .ok (.iload_n 1, 1) := by decide +kernel
theorem dX12_isAct_1 : decode cX12_isAct 1 = .ok (.i2l, 1) := by decide +kernel
theorem dX12_isAct_2 : decode cX12_isAct 2 = .ok (.lconst 0, 1) := by decide +kernel
theorem dX12_isAct_3 : decode cX12_isAct 3 = .ok (.aload_n 0, 1) := by decide +kernel
theorem dX12_isAct_4 : decode cX12_isAct 4 = .ok (.getfield 7, 3) := by decide +kernel
theorem dX12_isAct_7 : decode cX12_isAct 7 = .ok (.iconst 0, 1) := by decide +kernel
theorem dX12_isAct_8 : decode cX12_isAct 8 = .ok (.iaload, 1) := by decide +kernel
theorem dX12_isAct_9 : decode cX12_isAct 9 = .ok (.i2l, 1) := by decide +kernel
theorem dX12_isAct_10 : decode cX12_isAct 10 = .ok (.invokestatic 61, 3) := by decide +kernel
theorem dX12_isAct_13 : decode cX12_isAct 13 = .ok (.ifCond .eq 14, 3) := by decide +kernel
theorem dX12_isAct_16 : decode cX12_isAct 16 = .ok (.aload_n 0, 1) := by decide +kernel
theorem dX12_isAct_17 : decode cX12_isAct 17 = .ok (.invokevirtual 118, 3) := by decide +kernel
theorem dX12_isAct_20 : decode cX12_isAct 20 = .ok (.ifCond .ne 7, 3) := by decide +kernel
theorem dX12_isAct_23 : decode cX12_isAct 23 = .ok (.iconst 1, 1) := by decide +kernel
theorem dX12_isAct_24 : decode cX12_isAct 24 = .ok (.goto 4, 3) := by decide +kernel
theorem dX12_isAct_27 : decode cX12_isAct 27 = .ok (.iconst 0, 1) := by decide +kernel
theorem dX12_isAct_28 : decode cX12_isAct 28 = .ok (.ireturn, 1) := by decide +kernel
theorem dX12_judge_0 : decode cX12_judge 0 = .ok (.aload_n 0, 1) := by decide +kernel
theorem dX12_judge_1 : decode cX12_judge 1 = .ok (.invokevirtual 162, 3) := by decide +kernel
theorem dX12_judge_4 : decode cX12_judge 4 = .ok (.iconst 0, 1) := by decide +kernel
theorem dX12_judge_5 : decode cX12_judge 5 = .ok (.istore_n 1, 1) := by decide +kernel
theorem dX12_judge_6 : decode cX12_judge 6 = .ok (.iconst 0, 1) := by decide +kernel
theorem dX12_judge_7 : decode cX12_judge 7 = .ok (.istore_n 2, 1) := by decide +kernel
theorem dX12_judge_8 : decode cX12_judge 8 = .ok (.iload_n 2, 1) := by decide +kernel
theorem dX12_judge_9 : decode cX12_judge 9 = .ok (.aload_n 0, 1) := by decide +kernel
theorem dX12_judge_10 : decode cX12_judge 10 = .ok (.getfield 272, 3) := by decide +kernel
theorem dX12_judge_13 : decode cX12_judge 13 = .ok (.if_icmp .ge 88, 3) := by decide +kernel
theorem dX12_judge_16 : decode cX12_judge 16 = .ok (.iload_n 1, 1) := by decide +kernel
theorem dX12_judge_17 : decode cX12_judge 17 = .ok (.ifCond .ne 84, 3) := by decide +kernel
theorem dX12_judge_20 : decode cX12_judge 20 = .ok (.aload_n 0, 1) := by decide +kernel
theorem dX12_judge_21 : decode cX12_judge 21 = .ok (.aload_n 0, 1) := by decide +kernel
theorem dX12_judge_22 : decode cX12_judge 22 = .ok (.getfield 34, 3) := by decide +kernel
theorem dX12_judge_25 : decode cX12_judge 25 = .ok (.iconst 3, 1) := by decide +kernel
theorem dX12_judge_26 : decode cX12_judge 26 = .ok (.iload_n 2, 1) := by decide +kernel
theorem dX12_judge_27 : decode cX12_judge 27 = .ok (.imul, 1) := by decide +kernel
theorem dX12_judge_28 : decode cX12_judge 28 = .ok (.iaload, 1) := by decide +kernel
theorem dX12_judge_29 : decode cX12_judge 29 = .ok (.invokevirtual 278, 3) := by decide +kernel
theorem dX12_judge_32 : decode cX12_judge 32 = .ok (.ifCond .eq 49, 3) := by decide +kernel
theorem dX12_judge_35 : decode cX12_judge 35 = .ok (.aload_n 0, 1) := by decide +kernel
theorem dX12_judge_36 : decode cX12_judge 36 = .ok (.aload_n 0, 1) := by decide +kernel
theorem dX12_judge_37 : decode cX12_judge 37 = .ok (.getfield 34, 3) := by decide +kernel
theorem dX12_judge_40 : decode cX12_judge 40 = .ok (.iconst 3, 1) := by decide +kernel
theorem dX12_judge_41 : decode cX12_judge 41 = .ok (.iload_n 2, 1) := by decide +kernel
theorem dX12_judge_42 : decode cX12_judge 42 = .ok (.imul, 1) := by decide +kernel
theorem dX12_judge_43 : decode cX12_judge 43 = .ok (.iaload, 1) := by decide +kernel
theorem dX12_judge_44 : decode cX12_judge 44 = .ok (.invokevirtual 159, 3) := by decide +kernel
theorem dX12_judge_47 : decode cX12_judge 47 = .ok (.aload_n 0, 1) := by decide +kernel
theorem dX12_judge_48 : decode cX12_judge 48 = .ok (.getfield 34, 3) := by decide +kernel
theorem dX12_judge_51 : decode cX12_judge 51 = .ok (.iconst 3, 1) := by decide +kernel
theorem dX12_judge_52 : decode cX12_judge 52 = .ok (.iload_n 2, 1) := by decide +kernel
theorem dX12_judge_53 : decode cX12_judge 53 = .ok (.imul, 1) := by decide +kernel
theorem dX12_judge_54 : decode cX12_judge 54 = .ok (.iconst 1, 1) := by decide +kernel
theorem dX12_judge_55 : decode cX12_judge 55 = .ok (.iadd, 1) := by decide +kernel
theorem dX12_judge_56 : decode cX12_judge 56 = .ok (.iaload, 1) := by decide +kernel
theorem dX12_judge_57 : decode cX12_judge 57 = .ok (.if_icmp .ne 24, 3) := by decide +kernel
theorem dX12_judge_60 : decode cX12_judge 60 = .ok (.aload_n 0, 1) := by decide +kernel
theorem dX12_judge_61 : decode cX12_judge 61 = .ok (.invokevirtual 122, 3) := by decide +kernel
theorem dX12_judge_64 : decode cX12_judge 64 = .ok (.aload_n 0, 1) := by decide +kernel
theorem dX12_judge_65 : decode cX12_judge 65 = .ok (.getfield 34, 3) := by decide +kernel
theorem dX12_judge_68 : decode cX12_judge 68 = .ok (.iconst 3, 1) := by decide +kernel
theorem dX12_judge_69 : decode cX12_judge 69 = .ok (.iload_n 2, 1) := by decide +kernel
theorem dX12_judge_70 : decode cX12_judge 70 = .ok (.imul, 1) := by decide +kernel
theorem dX12_judge_71 : decode cX12_judge 71 = .ok (.iconst 2, 1) := by decide +kernel
theorem dX12_judge_72 : decode cX12_judge 72 = .ok (.iadd, 1) := by decide +kernel
theorem dX12_judge_73 : decode cX12_judge 73 = .ok (.iaload, 1) := by decide +kernel
theorem dX12_judge_74 : decode cX12_judge 74 = .ok (.if_icmp .ne 7, 3) := by decide +kernel
theorem dX12_judge_77 : decode cX12_judge 77 = .ok (.iconst 1, 1) := by decide +kernel
theorem dX12_judge_78 : decode cX12_judge 78 = .ok (.goto 4, 3) := by decide +kernel
theorem dX12_judge_81 : decode cX12_judge 81 = .ok (.iconst 0, 1) := by decide +kernel
theorem dX12_judge_82 : decode cX12_judge 82 = .ok (.istore_n 3, 1) := by decide +kernel
theorem dX12_judge_83 : decode cX12_judge 83 = .ok (.iload_n 3, 1) := by decide +kernel
theorem dX12_judge_84 : decode cX12_judge 84 = .ok (.ifCond .eq 7, 3) := by decide +kernel
theorem dX12_judge_87 : decode cX12_judge 87 = .ok (.iconst 0, 1) := by decide +kernel
theorem dX12_judge_88 : decode cX12_judge 88 = .ok (.goto 6, 3) := by decide +kernel
theorem dX12_judge_91 : decode cX12_judge 91 = .ok (.iload_n 2, 1) := by decide +kernel
theorem dX12_judge_92 : decode cX12_judge 92 = .ok (.iconst 1, 1) := by decide +kernel
theorem dX12_judge_93 : decode cX12_judge 93 = .ok (.iadd, 1) := by decide +kernel
theorem dX12_judge_94 : decode cX12_judge 94 = .ok (.istore_n 1, 1) := by decide +kernel
theorem dX12_judge_95 : decode cX12_judge 95 = .ok (.iinc 2 1, 3) := by decide +kernel
theorem dX12_judge_98 : decode cX12_judge 98 = .ok (.goto (-90), 3) := by decide +kernel
theorem dX12_judge_101 : decode cX12_judge 101 = .ok (.aload_n 0, 1) := by decide +kernel
theorem dX12_judge_102 : decode cX12_judge 102 = .ok (.invokevirtual 168, 3) := by decide +kernel
theorem dX12_judge_105 : decode cX12_judge 105 = .ok (.iload_n 1, 1) := by decide +kernel
theorem dX12_judge_106 : decode cX12_judge 106 = .ok (.ireturn, 1) := by decide +kernel
theorem dX12_feed_0 : decode cX12_feed 0 = .ok (.iload_n 3, 1) := by decide +kernel
theorem dX12_feed_1 : decode cX12_feed 1 = .ok (.i2l, 1) := by decide +kernel
theorem dX12_feed_2 : decode cX12_feed 2 = .ok (.lconst 1, 1) := by decide +kernel
theorem dX12_feed_3 : decode cX12_feed 3 = .ok (.ldc2_w 93, 3) := by decide +kernel
theorem dX12_feed_6 : decode cX12_feed 6 = .ok (.invokestatic 61, 3) := by decide +kernel
theorem dX12_feed_9 : decode cX12_feed 9 = .ok (.ifCond .ne 5, 3) := by decide +kernel
theorem dX12_feed_12 : decode cX12_feed 12 = .ok (.iconst (-1), 1) := by decide +kernel
theorem dX12_feed_13 : decode cX12_feed 13 = .ok (.ireturn, 1) := by decide +kernel
theorem dX12_feed_14 : decode cX12_feed 14 = .ok (.aload_n 0, 1) := by decide +kernel
theorem dX12_feed_15 : decode cX12_feed 15 = .ok (.getfield 281, 3) := by decide +kernel
theorem dX12_feed_18 : decode cX12_feed 18 = .ok (.iload_n 3, 1) := by decide +kernel
theorem dX12_feed_19 : decode cX12_feed 19 = .ok (.iadd, 1) := by decide +kernel
theorem dX12_feed_20 : decode cX12_feed 20 = .ok (.sipush 200, 3) := by decide +kernel
theorem dX12_feed_23 : decode cX12_feed 23 = .ok (.if_icmp .le 6, 3) := by decide +kernel
theorem dX12_feed_26 : decode cX12_feed 26 = .ok (.bipush (-2), 2) := by decide +kernel
theorem dX12_feed_28 : decode cX12_feed 28 = .ok (.ireturn, 1) := by decide +kernel
theorem dX12_feed_29 : decode cX12_feed 29 = .ok (.iconst 0, 1) := by decide +kernel
theorem dX12_feed_30 : decode cX12_feed 30 = .ok (.istore 4, 2) := by decide +kernel
theorem dX12_feed_32 : decode cX12_feed 32 = .ok (.iload 4, 2) := by decide +kernel
theorem dX12_feed_34 : decode cX12_feed 34 = .ok (.iload_n 3, 1) := by decide +kernel
theorem dX12_feed_35 : decode cX12_feed 35 = .ok (.if_icmp .ge 40, 3) := by decide +kernel
theorem dX12_feed_38 : decode cX12_feed 38 = .ok (.aload_n 0, 1) := by decide +kernel
theorem dX12_feed_39 : decode cX12_feed 39 = .ok (.getfield 37, 3) := by decide +kernel
theorem dX12_feed_42 : decode cX12_feed 42 = .ok (.aload_n 0, 1) := by decide +kernel
theorem dX12_feed_43 : decode cX12_feed 43 = .ok (.getfield 281, 3) := by decide +kernel
theorem dX12_feed_46 : decode cX12_feed 46 = .ok (.lload_n 1, 1) := by decide +kernel
theorem dX12_feed_47 : decode cX12_feed 47 = .ok (.bipush 8, 2) := by decide +kernel
theorem dX12_feed_49 : decode cX12_feed 49 = .ok (.iload 4, 2) := by decide +kernel
theorem dX12_feed_51 : decode cX12_feed 51 = .ok (.imul, 1) := by decide +kernel
theorem dX12_feed_52 : decode cX12_feed 52 = .ok (.lshr, 1) := by decide +kernel
theorem dX12_feed_53 : decode cX12_feed 53 = .ok (.ldc2_w 284, 3) := by decide +kernel
theorem dX12_feed_56 : decode cX12_feed 56 = .ok (.land, 1) := by decide +kernel
theorem dX12_feed_57 : decode cX12_feed 57 = .ok (.l2i, 1) := by decide +kernel
theorem dX12_feed_58 : decode cX12_feed 58 = .ok (.iastore, 1) := by decide +kernel
theorem dX12_feed_59 : decode cX12_feed 59 = .ok (.aload_n 0, 1) := by decide +kernel
theorem dX12_feed_60 : decode cX12_feed 60 = .ok (.dup, 1) := by decide +kernel
theorem dX12_feed_61 : decode cX12_feed 61 = .ok (.getfield 281, 3) := by decide +kernel
theorem dX12_feed_64 : decode cX12_feed 64 = .ok (.iconst 1, 1) := by decide +kernel
theorem dX12_feed_65 : decode cX12_feed 65 = .ok (.iadd, 1) := by decide +kernel
theorem dX12_feed_66 : decode cX12_feed 66 = .ok (.putfield 281, 3) := by decide +kernel
theorem dX12_feed_69 : decode cX12_feed 69 = .ok (.iinc 4 1, 3) := by decide +kernel
theorem dX12_feed_72 : decode cX12_feed 72 = .ok (.goto (-40), 3) := by decide +kernel
theorem dX12_feed_75 : decode cX12_feed 75 = .ok (.aload_n 0, 1) := by decide +kernel
theorem dX12_feed_76 : decode cX12_feed 76 = .ok (.getfield 281, 3) := by decide +kernel
theorem dX12_feed_79 : decode cX12_feed 79 = .ok (.ireturn, 1) := by decide +kernel
theorem dX12_byteAt_0 : decode cX12_byteAt 0 = .ok (.iload_n 1, 1) := by decide +kernel
theorem dX12_byteAt_1 : decode cX12_byteAt 1 = .ok (.aload_n 0, 1) := by decide +kernel
theorem dX12_byteAt_2 : decode cX12_byteAt 2 = .ok (.getfield 281, 3) := by decide +kernel
theorem dX12_byteAt_5 : decode cX12_byteAt 5 = .ok (.if_icmp .ge 12, 3) := by decide +kernel
theorem dX12_byteAt_8 : decode cX12_byteAt 8 = .ok (.aload_n 0, 1) := by decide +kernel
theorem dX12_byteAt_9 : decode cX12_byteAt 9 = .ok (.getfield 37, 3) := by decide +kernel
theorem dX12_byteAt_12 : decode cX12_byteAt 12 = .ok (.iload_n 1, 1) := by decide +kernel
theorem dX12_byteAt_13 : decode cX12_byteAt 13 = .ok (.iaload, 1) := by decide +kernel
theorem dX12_byteAt_14 : decode cX12_byteAt 14 = .ok (.goto 4, 3) := by decide +kernel
theorem dX12_byteAt_17 : decode cX12_byteAt 17 = .ok (.iconst (-1), 1) := by decide +kernel
theorem dX12_byteAt_18 : decode cX12_byteAt 18 = .ok (.ireturn, 1) := by decide +kernel
theorem dX12_isLetter_0 : decode cX12_isLetter 0 = .ok (.iload_n 0, 1) := by decide +kernel
theorem dX12_isLetter_1 : decode cX12_isLetter 1 = .ok (.i2l, 1) := by decide +kernel
theorem dX12_isLetter_2 : decode cX12_isLetter 2 = .ok (.ldc2_w 286, 3) := by decide +kernel
theorem dX12_isLetter_5 : decode cX12_isLetter 5 = .ok (.ldc2_w 288, 3) := by decide +kernel
theorem dX12_isLetter_8 : decode cX12_isLetter 8 = .ok (.invokestatic 61, 3) := by decide +kernel
theorem dX12_isLetter_11 : decode cX12_isLetter 11 = .ok (.ireturn, 1) := by decide +kernel
theorem dX12_isDigit_0 : decode cX12_isDigit 0 = .ok (.iload_n 0, 1) := by decide +kernel
theorem dX12_isDigit_1 : decode cX12_isDigit 1 = .ok (.i2l, 1) := by decide +kernel
theorem dX12_isDigit_2 : decode cX12_isDigit 2 = .ok (.ldc2_w 290, 3) := by decide +kernel
theorem dX12_isDigit_5 : decode cX12_isDigit 5 = .ok (.ldc2_w 292, 3) := by decide +kernel
theorem dX12_isDigit_8 : decode cX12_isDigit 8 = .ok (.invokestatic 61, 3) := by decide +kernel
theorem dX12_isDigit_11 : decode cX12_isDigit 11 = .ok (.ireturn, 1) := by decide +kernel
theorem dX12_token_0 : decode cX12_token 0 = .ok (.aload_n 0, 1) := by decide +kernel
theorem dX12_token_1 : decode cX12_token 1 = .ok (.aload_n 0, 1) := by decide +kernel
theorem dX12_token_2 : decode cX12_token 2 = .ok (.getfield 294, 3) := by decide +kernel
theorem dX12_token_5 : decode cX12_token 5 = .ok (.putfield 297, 3) := by decide +kernel
theorem dX12_token_8 : decode cX12_token 8 = .ok (.aload_n 0, 1) := by decide +kernel
theorem dX12_token_9 : decode cX12_token 9 = .ok (.aload_n 0, 1) := by decide +kernel
theorem dX12_token_10 : decode cX12_token 10 = .ok (.getfield 297, 3) := by decide +kernel
theorem dX12_token_13 : decode cX12_token 13 = .ok (.invokevirtual 300, 3) := by decide +kernel
theorem dX12_token_16 : decode cX12_token 16 = .ok (.bipush 32, 2) := by decide +kernel
theorem dX12_token_18 : decode cX12_token 18 = .ok (.if_icmp .ne 16, 3) := by decide +kernel
theorem dX12_token_21 : decode cX12_token 21 = .ok (.aload_n 0, 1) := by decide +kernel
theorem dX12_token_22 : decode cX12_token 22 = .ok (.dup, 1) := by decide +kernel
theorem dX12_token_23 : decode cX12_token 23 = .ok (.getfield 297, 3) := by decide +kernel
theorem dX12_token_26 : decode cX12_token 26 = .ok (.iconst 1, 1) := by decide +kernel
theorem dX12_token_27 : decode cX12_token 27 = .ok (.iadd, 1) := by decide +kernel
theorem dX12_token_28 : decode cX12_token 28 = .ok (.putfield 297, 3) := by decide +kernel
theorem dX12_token_31 : decode cX12_token 31 = .ok (.goto (-23), 3) := by decide +kernel
theorem dX12_token_34 : decode cX12_token 34 = .ok (.aload_n 0, 1) := by decide +kernel
theorem dX12_token_35 : decode cX12_token 35 = .ok (.aload_n 0, 1) := by decide +kernel
theorem dX12_token_36 : decode cX12_token 36 = .ok (.getfield 297, 3) := by decide +kernel
theorem dX12_token_39 : decode cX12_token 39 = .ok (.invokevirtual 300, 3) := by decide +kernel
theorem dX12_token_42 : decode cX12_token 42 = .ok (.invokestatic 303, 3) := by decide +kernel
theorem dX12_token_45 : decode cX12_token 45 = .ok (.istore_n 1, 1) := by decide +kernel
theorem dX12_token_46 : decode cX12_token 46 = .ok (.aload_n 0, 1) := by decide +kernel
theorem dX12_token_47 : decode cX12_token 47 = .ok (.aload_n 0, 1) := by decide +kernel
theorem dX12_token_48 : decode cX12_token 48 = .ok (.getfield 297, 3) := by decide +kernel
theorem dX12_token_51 : decode cX12_token 51 = .ok (.invokevirtual 300, 3) := by decide +kernel
theorem dX12_token_54 : decode cX12_token 54 = .ok (.invokestatic 306, 3) := by decide +kernel
theorem dX12_token_57 : decode cX12_token 57 = .ok (.istore_n 2, 1) := by decide +kernel
theorem dX12_token_58 : decode cX12_token 58 = .ok (.aload_n 0, 1) := by decide +kernel
theorem dX12_token_59 : decode cX12_token 59 = .ok (.aload_n 0, 1) := by decide +kernel
theorem dX12_token_60 : decode cX12_token 60 = .ok (.getfield 297, 3) := by decide +kernel
theorem dX12_token_63 : decode cX12_token 63 = .ok (.aload_n 0, 1) := by decide +kernel
theorem dX12_token_64 : decode cX12_token 64 = .ok (.getfield 281, 3) := by decide +kernel
theorem dX12_token_67 : decode cX12_token 67 = .ok (.if_icmp .ge 12, 3) := by decide +kernel
theorem dX12_token_70 : decode cX12_token 70 = .ok (.aload_n 0, 1) := by decide +kernel
theorem dX12_token_71 : decode cX12_token 71 = .ok (.getfield 297, 3) := by decide +kernel
theorem dX12_token_74 : decode cX12_token 74 = .ok (.iconst 1, 1) := by decide +kernel
theorem dX12_token_75 : decode cX12_token 75 = .ok (.iadd, 1) := by decide +kernel
theorem dX12_token_76 : decode cX12_token 76 = .ok (.goto 7, 3) := by decide +kernel
theorem dX12_token_79 : decode cX12_token 79 = .ok (.aload_n 0, 1) := by decide +kernel
theorem dX12_token_80 : decode cX12_token 80 = .ok (.getfield 297, 3) := by decide +kernel
theorem dX12_token_83 : decode cX12_token 83 = .ok (.putfield 294, 3) := by decide +kernel
theorem dX12_token_86 : decode cX12_token 86 = .ok (.iload_n 1, 1) := by decide +kernel
theorem dX12_token_87 : decode cX12_token 87 = .ok (.ifCond .eq 17, 3) := by decide +kernel
theorem dX12_token_90 : decode cX12_token 90 = .ok (.aload_n 0, 1) := by decide +kernel
theorem dX12_token_91 : decode cX12_token 91 = .ok (.aload_n 0, 1) := by decide +kernel
theorem dX12_token_92 : decode cX12_token 92 = .ok (.getfield 294, 3) := by decide +kernel
theorem dX12_token_95 : decode cX12_token 95 = .ok (.invokevirtual 300, 3) := by decide +kernel
theorem dX12_token_98 : decode cX12_token 98 = .ok (.invokestatic 303, 3) := by decide +kernel
theorem dX12_token_101 : decode cX12_token 101 = .ok (.ifCond .ne 21, 3) := by decide +kernel
theorem dX12_token_104 : decode cX12_token 104 = .ok (.iload_n 2, 1) := by decide +kernel
theorem dX12_token_105 : decode cX12_token 105 = .ok (.ifCond .eq 30, 3) := by decide +kernel
theorem dX12_token_108 : decode cX12_token 108 = .ok (.aload_n 0, 1) := by decide +kernel
theorem dX12_token_109 : decode cX12_token 109 = .ok (.aload_n 0, 1) := by decide +kernel
theorem dX12_token_110 : decode cX12_token 110 = .ok (.getfield 294, 3) := by decide +kernel
theorem dX12_token_113 : decode cX12_token 113 = .ok (.invokevirtual 300, 3) := by decide +kernel
theorem dX12_token_116 : decode cX12_token 116 = .ok (.invokestatic 306, 3) := by decide +kernel
theorem dX12_token_119 : decode cX12_token 119 = .ok (.ifCond .eq 16, 3) := by decide +kernel
theorem dX12_token_122 : decode cX12_token 122 = .ok (.aload_n 0, 1) := by decide +kernel
theorem dX12_token_123 : decode cX12_token 123 = .ok (.dup, 1) := by decide +kernel
theorem dX12_token_124 : decode cX12_token 124 = .ok (.getfield 294, 3) := by decide +kernel
theorem dX12_token_127 : decode cX12_token 127 = .ok (.iconst 1, 1) := by decide +kernel
theorem dX12_token_128 : decode cX12_token 128 = .ok (.iadd, 1) := by decide +kernel
theorem dX12_token_129 : decode cX12_token 129 = .ok (.putfield 294, 3) := by decide +kernel
theorem dX12_token_132 : decode cX12_token 132 = .ok (.goto (-46), 3) := by decide +kernel
theorem dX12_token_135 : decode cX12_token 135 = .ok (.return_, 1) := by decide +kernel
theorem dX12_wants_0 : decode cX12_wants 0 = .ok (.aload_n 0, 1) := by decide +kernel
theorem dX12_wants_1 : decode cX12_wants 1 = .ok (.aload_n 0, 1) := by decide +kernel
theorem dX12_wants_2 : decode cX12_wants 2 = .ok (.getfield 309, 3) := by decide +kernel
theorem dX12_wants_5 : decode cX12_wants 5 = .ok (.ifCond .ne 7, 3) := by decide +kernel
theorem dX12_wants_8 : decode cX12_wants 8 = .ok (.iload_n 1, 1) := by decide +kernel
theorem dX12_wants_9 : decode cX12_wants 9 = .ok (.ifCond .ne 7, 3) := by decide +kernel
theorem dX12_wants_12 : decode cX12_wants 12 = .ok (.iconst 1, 1) := by decide +kernel
theorem dX12_wants_13 : decode cX12_wants 13 = .ok (.goto 4, 3) := by decide +kernel
theorem dX12_wants_16 : decode cX12_wants 16 = .ok (.iconst 0, 1) := by decide +kernel
theorem dX12_wants_17 : decode cX12_wants 17 = .ok (.putfield 309, 3) := by decide +kernel
theorem dX12_wants_20 : decode cX12_wants 20 = .ok (.aload_n 0, 1) := by decide +kernel
theorem dX12_wants_21 : decode cX12_wants 21 = .ok (.getfield 309, 3) := by decide +kernel
theorem dX12_wants_24 : decode cX12_wants 24 = .ok (.ifCond .ne 7, 3) := by decide +kernel
theorem dX12_wants_27 : decode cX12_wants 27 = .ok (.aload_n 0, 1) := by decide +kernel
theorem dX12_wants_28 : decode cX12_wants 28 = .ok (.invokevirtual 313, 3) := by decide +kernel
theorem dX12_wants_31 : decode cX12_wants 31 = .ok (.return_, 1) := by decide +kernel
theorem dX12_word_0 : decode cX12_word 0 = .ok (.lconst 0, 1) := by decide +kernel
theorem dX12_word_1 : decode cX12_word 1 = .ok (.lstore_n 1, 1) := by decide +kernel
theorem dX12_word_2 : decode cX12_word 2 = .ok (.aload_n 0, 1) := by decide +kernel
theorem dX12_word_3 : decode cX12_word 3 = .ok (.getfield 297, 3) := by decide +kernel
theorem dX12_word_6 : decode cX12_word 6 = .ok (.istore_n 3, 1) := by decide +kernel
theorem dX12_word_7 : decode cX12_word 7 = .ok (.iload_n 3, 1) := by decide +kernel
theorem dX12_word_8 : decode cX12_word 8 = .ok (.aload_n 0, 1) := by decide +kernel
theorem dX12_word_9 : decode cX12_word 9 = .ok (.getfield 294, 3) := by decide +kernel
theorem dX12_word_12 : decode cX12_word 12 = .ok (.if_icmp .ge 38, 3) := by decide +kernel
theorem dX12_word_15 : decode cX12_word 15 = .ok (.lload_n 1, 1) := by decide +kernel
theorem dX12_word_16 : decode cX12_word 16 = .ok (.ldc2_w 316, 3) := by decide +kernel
theorem dX12_word_19 : decode cX12_word 19 = .ok (.lcmp, 1) := by decide +kernel
theorem dX12_word_20 : decode cX12_word 20 = .ok (.ifCond .le 7, 3) := by decide +kernel
theorem dX12_word_23 : decode cX12_word 23 = .ok (.lload_n 1, 1) := by decide +kernel
theorem dX12_word_24 : decode cX12_word 24 = .ok (.goto 19, 3) := by decide +kernel
theorem dX12_word_27 : decode cX12_word 27 = .ok (.ldc2_w 318, 3) := by decide +kernel
theorem dX12_word_30 : decode cX12_word 30 = .ok (.lload_n 1, 1) := by decide +kernel
theorem dX12_word_31 : decode cX12_word 31 = .ok (.lmul, 1) := by decide +kernel
theorem dX12_word_32 : decode cX12_word 32 = .ok (.aload_n 0, 1) := by decide +kernel
theorem dX12_word_33 : decode cX12_word 33 = .ok (.getfield 37, 3) := by decide +kernel
theorem dX12_word_36 : decode cX12_word 36 = .ok (.iload_n 3, 1) := by decide +kernel
theorem dX12_word_37 : decode cX12_word 37 = .ok (.iaload, 1) := by decide +kernel
theorem dX12_word_38 : decode cX12_word 38 = .ok (.bipush 96, 2) := by decide +kernel
theorem dX12_word_40 : decode cX12_word 40 = .ok (.isub, 1) := by decide +kernel
theorem dX12_word_41 : decode cX12_word 41 = .ok (.i2l, 1) := by decide +kernel
theorem dX12_word_42 : decode cX12_word 42 = .ok (.ladd, 1) := by decide +kernel
theorem dX12_word_43 : decode cX12_word 43 = .ok (.lstore_n 1, 1) := by decide +kernel
theorem dX12_word_44 : decode cX12_word 44 = .ok (.iinc 3 1, 3) := by decide +kernel
theorem dX12_word_47 : decode cX12_word 47 = .ok (.goto (-40), 3) := by decide +kernel
theorem dX12_word_50 : decode cX12_word 50 = .ok (.aload_n 0, 1) := by decide +kernel
theorem dX12_word_51 : decode cX12_word 51 = .ok (.getfield 309, 3) := by decide +kernel
theorem dX12_word_54 : decode cX12_word 54 = .ok (.ifCond .ne 17, 3) := by decide +kernel
theorem dX12_word_57 : decode cX12_word 57 = .ok (.aload_n 0, 1) := by decide +kernel
theorem dX12_word_58 : decode cX12_word 58 = .ok (.aload_n 0, 1) := by decide +kernel
theorem dX12_word_59 : decode cX12_word 59 = .ok (.getfield 297, 3) := by decide +kernel
theorem dX12_word_62 : decode cX12_word 62 = .ok (.invokevirtual 300, 3) := by decide +kernel
theorem dX12_word_65 : decode cX12_word 65 = .ok (.invokestatic 303, 3) := by decide +kernel
theorem dX12_word_68 : decode cX12_word 68 = .ok (.ifCond .ne 7, 3) := by decide +kernel
theorem dX12_word_71 : decode cX12_word 71 = .ok (.lconst 0, 1) := by decide +kernel
theorem dX12_word_72 : decode cX12_word 72 = .ok (.goto 4, 3) := by decide +kernel
theorem dX12_word_75 : decode cX12_word 75 = .ok (.lload_n 1, 1) := by decide +kernel
theorem dX12_word_76 : decode cX12_word 76 = .ok (.lreturn, 1) := by decide +kernel
theorem dX12_number_0 : decode cX12_number 0 = .ok (.aload_n 0, 1) := by decide +kernel
theorem dX12_number_1 : decode cX12_number 1 = .ok (.aload_n 0, 1) := by decide +kernel
theorem dX12_number_2 : decode cX12_number 2 = .ok (.getfield 297, 3) := by decide +kernel
theorem dX12_number_5 : decode cX12_number 5 = .ok (.invokevirtual 300, 3) := by decide +kernel
theorem dX12_number_8 : decode cX12_number 8 = .ok (.invokestatic 306, 3) := by decide +kernel
theorem dX12_number_11 : decode cX12_number 11 = .ok (.ifCond .eq 20, 3) := by decide +kernel
theorem dX12_number_14 : decode cX12_number 14 = .ok (.aload_n 0, 1) := by decide +kernel
theorem dX12_number_15 : decode cX12_number 15 = .ok (.getfield 294, 3) := by decide +kernel
theorem dX12_number_18 : decode cX12_number 18 = .ok (.aload_n 0, 1) := by decide +kernel
theorem dX12_number_19 : decode cX12_number 19 = .ok (.getfield 297, 3) := by decide +kernel
theorem dX12_number_22 : decode cX12_number 22 = .ok (.isub, 1) := by decide +kernel
theorem dX12_number_23 : decode cX12_number 23 = .ok (.iconst 5, 1) := by decide +kernel
theorem dX12_number_24 : decode cX12_number 24 = .ok (.if_icmp .ge 7, 3) := by decide +kernel
theorem dX12_number_27 : decode cX12_number 27 = .ok (.iconst 1, 1) := by decide +kernel
theorem dX12_number_28 : decode cX12_number 28 = .ok (.goto 4, 3) := by decide +kernel
theorem dX12_number_31 : decode cX12_number 31 = .ok (.iconst 0, 1) := by decide +kernel
theorem dX12_number_32 : decode cX12_number 32 = .ok (.istore_n 2, 1) := by decide +kernel
theorem dX12_number_33 : decode cX12_number 33 = .ok (.aload_n 0, 1) := by decide +kernel
theorem dX12_number_34 : decode cX12_number 34 = .ok (.iconst 0, 1) := by decide +kernel
theorem dX12_number_35 : decode cX12_number 35 = .ok (.putfield 320, 3) := by decide +kernel
theorem dX12_number_38 : decode cX12_number 38 = .ok (.aload_n 0, 1) := by decide +kernel
theorem dX12_number_39 : decode cX12_number 39 = .ok (.getfield 297, 3) := by decide +kernel
theorem dX12_number_42 : decode cX12_number 42 = .ok (.istore_n 3, 1) := by decide +kernel
theorem dX12_number_43 : decode cX12_number 43 = .ok (.iload_n 3, 1) := by decide +kernel
theorem dX12_number_44 : decode cX12_number 44 = .ok (.aload_n 0, 1) := by decide +kernel
theorem dX12_number_45 : decode cX12_number 45 = .ok (.getfield 294, 3) := by decide +kernel
theorem dX12_number_48 : decode cX12_number 48 = .ok (.if_icmp .ge 34, 3) := by decide +kernel
theorem dX12_number_51 : decode cX12_number 51 = .ok (.iload_n 2, 1) := by decide +kernel
theorem dX12_number_52 : decode cX12_number 52 = .ok (.ifCond .eq 30, 3) := by decide +kernel
theorem dX12_number_55 : decode cX12_number 55 = .ok (.aload_n 0, 1) := by decide +kernel
theorem dX12_number_56 : decode cX12_number 56 = .ok (.bipush 10, 2) := by decide +kernel
theorem dX12_number_58 : decode cX12_number 58 = .ok (.aload_n 0, 1) := by decide +kernel
theorem dX12_number_59 : decode cX12_number 59 = .ok (.getfield 320, 3) := by decide +kernel
theorem dX12_number_62 : decode cX12_number 62 = .ok (.imul, 1) := by decide +kernel
theorem dX12_number_63 : decode cX12_number 63 = .ok (.aload_n 0, 1) := by decide +kernel
theorem dX12_number_64 : decode cX12_number 64 = .ok (.getfield 37, 3) := by decide +kernel
theorem dX12_number_67 : decode cX12_number 67 = .ok (.iload_n 3, 1) := by decide +kernel
theorem dX12_number_68 : decode cX12_number 68 = .ok (.iaload, 1) := by decide +kernel
theorem dX12_number_69 : decode cX12_number 69 = .ok (.iadd, 1) := by decide +kernel
theorem dX12_number_70 : decode cX12_number 70 = .ok (.bipush 48, 2) := by decide +kernel
theorem dX12_number_72 : decode cX12_number 72 = .ok (.isub, 1) := by decide +kernel
theorem dX12_number_73 : decode cX12_number 73 = .ok (.putfield 320, 3) := by decide +kernel
theorem dX12_number_76 : decode cX12_number 76 = .ok (.iinc 3 1, 3) := by decide +kernel
theorem dX12_number_79 : decode cX12_number 79 = .ok (.goto (-36), 3) := by decide +kernel
theorem dX12_number_82 : decode cX12_number 82 = .ok (.aload_n 0, 1) := by decide +kernel
theorem dX12_number_83 : decode cX12_number 83 = .ok (.iload_n 2, 1) := by decide +kernel
theorem dX12_number_84 : decode cX12_number 84 = .ok (.ifCond .eq 15, 3) := by decide +kernel
theorem dX12_number_87 : decode cX12_number 87 = .ok (.aload_n 0, 1) := by decide +kernel
theorem dX12_number_88 : decode cX12_number 88 = .ok (.getfield 320, 3) := by decide +kernel
theorem dX12_number_91 : decode cX12_number 91 = .ok (.iload_n 1, 1) := by decide +kernel
theorem dX12_number_92 : decode cX12_number 92 = .ok (.if_icmp .gt 7, 3) := by decide +kernel
theorem dX12_number_95 : decode cX12_number 95 = .ok (.iconst 1, 1) := by decide +kernel
theorem dX12_number_96 : decode cX12_number 96 = .ok (.goto 4, 3) := by decide +kernel
theorem dX12_number_99 : decode cX12_number 99 = .ok (.iconst 0, 1) := by decide +kernel
theorem dX12_number_100 : decode cX12_number 100 = .ok (.invokevirtual 323, 3) := by decide +kernel
theorem dX12_number_103 : decode cX12_number 103 = .ok (.return_, 1) := by decide +kernel
theorem dX12_kindHere_0 : decode cX12_kindHere 0 = .ok (.aload_n 0, 1) := by decide +kernel
theorem dX12_kindHere_1 : decode cX12_kindHere 1 = .ok (.invokevirtual 327, 3) := by decide +kernel
theorem dX12_kindHere_4 : decode cX12_kindHere 4 = .ok (.lstore_n 1, 1) := by decide +kernel
theorem dX12_kindHere_5 : decode cX12_kindHere 5 = .ok (.lload_n 1, 1) := by decide +kernel
theorem dX12_kindHere_6 : decode cX12_kindHere 6 = .ok (.ldc2_w 331, 3) := by decide +kernel
theorem dX12_kindHere_9 : decode cX12_kindHere 9 = .ok (.lcmp, 1) := by decide +kernel
theorem dX12_kindHere_10 : decode cX12_kindHere 10 = .ok (.ifCond .ne 7, 3) := by decide +kernel
theorem dX12_kindHere_13 : decode cX12_kindHere 13 = .ok (.iconst 0, 1) := by decide +kernel
theorem dX12_kindHere_14 : decode cX12_kindHere 14 = .ok (.goto 64, 3) := by decide +kernel
theorem dX12_kindHere_17 : decode cX12_kindHere 17 = .ok (.lload_n 1, 1) := by decide +kernel
theorem dX12_kindHere_18 : decode cX12_kindHere 18 = .ok (.ldc2_w 333, 3) := by decide +kernel
theorem dX12_kindHere_21 : decode cX12_kindHere 21 = .ok (.lcmp, 1) := by decide +kernel
theorem dX12_kindHere_22 : decode cX12_kindHere 22 = .ok (.ifCond .ne 7, 3) := by decide +kernel
theorem dX12_kindHere_25 : decode cX12_kindHere 25 = .ok (.iconst 1, 1) := by decide +kernel
theorem dX12_kindHere_26 : decode cX12_kindHere 26 = .ok (.goto 52, 3) := by decide +kernel
theorem dX12_kindHere_29 : decode cX12_kindHere 29 = .ok (.lload_n 1, 1) := by decide +kernel
theorem dX12_kindHere_30 : decode cX12_kindHere 30 = .ok (.ldc2_w 335, 3) := by decide +kernel
theorem dX12_kindHere_33 : decode cX12_kindHere 33 = .ok (.lcmp, 1) := by decide +kernel
theorem dX12_kindHere_34 : decode cX12_kindHere 34 = .ok (.ifCond .ne 7, 3) := by decide +kernel
theorem dX12_kindHere_37 : decode cX12_kindHere 37 = .ok (.iconst 2, 1) := by decide +kernel
theorem dX12_kindHere_38 : decode cX12_kindHere 38 = .ok (.goto 40, 3) := by decide +kernel
theorem dX12_kindHere_41 : decode cX12_kindHere 41 = .ok (.lload_n 1, 1) := by decide +kernel
theorem dX12_kindHere_42 : decode cX12_kindHere 42 = .ok (.ldc2_w 337, 3) := by decide +kernel
theorem dX12_kindHere_45 : decode cX12_kindHere 45 = .ok (.lcmp, 1) := by decide +kernel
theorem dX12_kindHere_46 : decode cX12_kindHere 46 = .ok (.ifCond .ne 7, 3) := by decide +kernel
theorem dX12_kindHere_49 : decode cX12_kindHere 49 = .ok (.iconst 3, 1) := by decide +kernel
theorem dX12_kindHere_50 : decode cX12_kindHere 50 = .ok (.goto 28, 3) := by decide +kernel
theorem dX12_kindHere_53 : decode cX12_kindHere 53 = .ok (.lload_n 1, 1) := by decide +kernel
theorem dX12_kindHere_54 : decode cX12_kindHere 54 = .ok (.ldc2_w 339, 3) := by decide +kernel
theorem dX12_kindHere_57 : decode cX12_kindHere 57 = .ok (.lcmp, 1) := by decide +kernel
theorem dX12_kindHere_58 : decode cX12_kindHere 58 = .ok (.ifCond .ne 7, 3) := by decide +kernel
theorem dX12_kindHere_61 : decode cX12_kindHere 61 = .ok (.iconst 4, 1) := by decide +kernel
theorem dX12_kindHere_62 : decode cX12_kindHere 62 = .ok (.goto 16, 3) := by decide +kernel
theorem dX12_kindHere_65 : decode cX12_kindHere 65 = .ok (.lload_n 1, 1) := by decide +kernel
theorem dX12_kindHere_66 : decode cX12_kindHere 66 = .ok (.ldc2_w 341, 3) := by decide +kernel
theorem dX12_kindHere_69 : decode cX12_kindHere 69 = .ok (.lcmp, 1) := by decide +kernel
theorem dX12_kindHere_70 : decode cX12_kindHere 70 = .ok (.ifCond .ne 7, 3) := by decide +kernel
theorem dX12_kindHere_73 : decode cX12_kindHere 73 = .ok (.iconst 5, 1) := by decide +kernel
theorem dX12_kindHere_74 : decode cX12_kindHere 74 = .ok (.goto 4, 3) := by decide +kernel
theorem dX12_kindHere_77 : decode cX12_kindHere 77 = .ok (.iconst (-1), 1) := by decide +kernel
theorem dX12_kindHere_78 : decode cX12_kindHere 78 = .ok (.ireturn, 1) := by decide +kernel
theorem dX12_factHere_0 : decode cX12_factHere 0 = .ok (.aload_n 0, 1) := by decide +kernel
theorem dX12_factHere_1 : decode cX12_factHere 1 = .ok (.invokevirtual 327, 3) := by decide +kernel
theorem dX12_factHere_4 : decode cX12_factHere 4 = .ok (.lstore_n 1, 1) := by decide +kernel
theorem dX12_factHere_5 : decode cX12_factHere 5 = .ok (.lload_n 1, 1) := by decide +kernel
theorem dX12_factHere_6 : decode cX12_factHere 6 = .ok (.ldc2_w 343, 3) := by decide +kernel
theorem dX12_factHere_9 : decode cX12_factHere 9 = .ok (.lcmp, 1) := by decide +kernel
theorem dX12_factHere_10 : decode cX12_factHere 10 = .ok (.ifCond .ne 7, 3) := by decide +kernel
theorem dX12_factHere_13 : decode cX12_factHere 13 = .ok (.iconst (-1), 1) := by decide +kernel
theorem dX12_factHere_14 : decode cX12_factHere 14 = .ok (.goto 56, 3) := by decide +kernel
theorem dX12_factHere_17 : decode cX12_factHere 17 = .ok (.lload_n 1, 1) := by decide +kernel
theorem dX12_factHere_18 : decode cX12_factHere 18 = .ok (.ldc2_w 345, 3) := by decide +kernel
theorem dX12_factHere_21 : decode cX12_factHere 21 = .ok (.lcmp, 1) := by decide +kernel
theorem dX12_factHere_22 : decode cX12_factHere 22 = .ok (.ifCond .ne 8, 3) := by decide +kernel
theorem dX12_factHere_25 : decode cX12_factHere 25 = .ok (.bipush (-2), 2) := by decide +kernel
theorem dX12_factHere_27 : decode cX12_factHere 27 = .ok (.goto 43, 3) := by decide +kernel
theorem dX12_factHere_30 : decode cX12_factHere 30 = .ok (.lload_n 1, 1) := by decide +kernel
theorem dX12_factHere_31 : decode cX12_factHere 31 = .ok (.ldc2_w 347, 3) := by decide +kernel
theorem dX12_factHere_34 : decode cX12_factHere 34 = .ok (.lcmp, 1) := by decide +kernel
theorem dX12_factHere_35 : decode cX12_factHere 35 = .ok (.ifCond .ne 8, 3) := by decide +kernel
theorem dX12_factHere_38 : decode cX12_factHere 38 = .ok (.bipush (-3), 2) := by decide +kernel
theorem dX12_factHere_40 : decode cX12_factHere 40 = .ok (.goto 30, 3) := by decide +kernel
theorem dX12_factHere_43 : decode cX12_factHere 43 = .ok (.lload_n 1, 1) := by decide +kernel
theorem dX12_factHere_44 : decode cX12_factHere 44 = .ok (.ldc2_w 349, 3) := by decide +kernel
theorem dX12_factHere_47 : decode cX12_factHere 47 = .ok (.lcmp, 1) := by decide +kernel
theorem dX12_factHere_48 : decode cX12_factHere 48 = .ok (.ifCond .ne 8, 3) := by decide +kernel
theorem dX12_factHere_51 : decode cX12_factHere 51 = .ok (.bipush (-4), 2) := by decide +kernel
theorem dX12_factHere_53 : decode cX12_factHere 53 = .ok (.goto 17, 3) := by decide +kernel
theorem dX12_factHere_56 : decode cX12_factHere 56 = .ok (.lload_n 1, 1) := by decide +kernel
theorem dX12_factHere_57 : decode cX12_factHere 57 = .ok (.ldc2_w 351, 3) := by decide +kernel
theorem dX12_factHere_60 : decode cX12_factHere 60 = .ok (.lcmp, 1) := by decide +kernel
theorem dX12_factHere_61 : decode cX12_factHere 61 = .ok (.ifCond .ne 8, 3) := by decide +kernel
theorem dX12_factHere_64 : decode cX12_factHere 64 = .ok (.bipush (-5), 2) := by decide +kernel
theorem dX12_factHere_66 : decode cX12_factHere 66 = .ok (.goto 4, 3) := by decide +kernel
theorem dX12_factHere_69 : decode cX12_factHere 69 = .ok (.iconst 0, 1) := by decide +kernel
theorem dX12_factHere_70 : decode cX12_factHere 70 = .ok (.ireturn, 1) := by decide +kernel
theorem dX12_writes_0 : decode cX12_writes 0 = .ok (.aload_n 0, 1) := by decide +kernel
theorem dX12_writes_1 : decode cX12_writes 1 = .ok (.getfield 309, 3) := by decide +kernel
theorem dX12_writes_4 : decode cX12_writes 4 = .ok (.ifCond .ne 26, 3) := by decide +kernel
theorem dX12_writes_7 : decode cX12_writes 7 = .ok (.aload_n 0, 1) := by decide +kernel
theorem dX12_writes_8 : decode cX12_writes 8 = .ok (.getfield 7, 3) := by decide +kernel
theorem dX12_writes_11 : decode cX12_writes 11 = .ok (.bipush 96, 2) := by decide +kernel
theorem dX12_writes_13 : decode cX12_writes 13 = .ok (.aload_n 0, 1) := by decide +kernel
theorem dX12_writes_14 : decode cX12_writes 14 = .ok (.getfield 353, 3) := by decide +kernel
theorem dX12_writes_17 : decode cX12_writes 17 = .ok (.iadd, 1) := by decide +kernel
theorem dX12_writes_18 : decode cX12_writes 18 = .ok (.iload_n 1, 1) := by decide +kernel
theorem dX12_writes_19 : decode cX12_writes 19 = .ok (.iastore, 1) := by decide +kernel
theorem dX12_writes_20 : decode cX12_writes 20 = .ok (.aload_n 0, 1) := by decide +kernel
theorem dX12_writes_21 : decode cX12_writes 21 = .ok (.dup, 1) := by decide +kernel
theorem dX12_writes_22 : decode cX12_writes 22 = .ok (.getfield 353, 3) := by decide +kernel
theorem dX12_writes_25 : decode cX12_writes 25 = .ok (.iconst 1, 1) := by decide +kernel
theorem dX12_writes_26 : decode cX12_writes 26 = .ok (.iadd, 1) := by decide +kernel
theorem dX12_writes_27 : decode cX12_writes 27 = .ok (.putfield 353, 3) := by decide +kernel
theorem dX12_writes_30 : decode cX12_writes 30 = .ok (.return_, 1) := by decide +kernel
theorem dX12_valueHere_0 : decode cX12_valueHere 0 = .ok (.aload_n 0, 1) := by decide +kernel
theorem dX12_valueHere_1 : decode cX12_valueHere 1 = .ok (.invokevirtual 356, 3) := by decide +kernel
theorem dX12_valueHere_4 : decode cX12_valueHere 4 = .ok (.istore_n 1, 1) := by decide +kernel
theorem dX12_valueHere_5 : decode cX12_valueHere 5 = .ok (.iload_n 1, 1) := by decide +kernel
theorem dX12_valueHere_6 : decode cX12_valueHere 6 = .ok (.ifCond .ge 16, 3) := by decide +kernel
theorem dX12_valueHere_9 : decode cX12_valueHere 9 = .ok (.aload_n 0, 1) := by decide +kernel
theorem dX12_valueHere_10 : decode cX12_valueHere 10 = .ok (.iconst 1, 1) := by decide +kernel
theorem dX12_valueHere_11 : decode cX12_valueHere 11 = .ok (.invokevirtual 323, 3) := by decide +kernel
theorem dX12_valueHere_14 : decode cX12_valueHere 14 = .ok (.aload_n 0, 1) := by decide +kernel
theorem dX12_valueHere_15 : decode cX12_valueHere 15 = .ok (.iload_n 1, 1) := by decide +kernel
theorem dX12_valueHere_16 : decode cX12_valueHere 16 = .ok (.invokevirtual 359, 3) := by decide +kernel
theorem dX12_valueHere_19 : decode cX12_valueHere 19 = .ok (.goto 25, 3) := by decide +kernel
theorem dX12_valueHere_22 : decode cX12_valueHere 22 = .ok (.aload_n 0, 1) := by decide +kernel
theorem dX12_valueHere_23 : decode cX12_valueHere 23 = .ok (.getfield 309, 3) := by decide +kernel
theorem dX12_valueHere_26 : decode cX12_valueHere 26 = .ok (.ifCond .ne 18, 3) := by decide +kernel
theorem dX12_valueHere_29 : decode cX12_valueHere 29 = .ok (.aload_n 0, 1) := by decide +kernel
theorem dX12_valueHere_30 : decode cX12_valueHere 30 = .ok (.sipush 9999, 3) := by decide +kernel
theorem dX12_valueHere_33 : decode cX12_valueHere 33 = .ok (.invokevirtual 362, 3) := by decide +kernel
theorem dX12_valueHere_36 : decode cX12_valueHere 36 = .ok (.aload_n 0, 1) := by decide +kernel
theorem dX12_valueHere_37 : decode cX12_valueHere 37 = .ok (.aload_n 0, 1) := by decide +kernel
theorem dX12_valueHere_38 : decode cX12_valueHere 38 = .ok (.getfield 320, 3) := by decide +kernel
theorem dX12_valueHere_41 : decode cX12_valueHere 41 = .ok (.invokevirtual 359, 3) := by decide +kernel
theorem dX12_valueHere_44 : decode cX12_valueHere 44 = .ok (.return_, 1) := by decide +kernel
theorem dX12_comparison_0 : decode cX12_comparison 0 = .ok (.aload_n 0, 1) := by decide +kernel
theorem dX12_comparison_1 : decode cX12_comparison 1 = .ok (.invokevirtual 365, 3) := by decide +kernel
theorem dX12_comparison_4 : decode cX12_comparison 4 = .ok (.aload_n 0, 1) := by decide +kernel
theorem dX12_comparison_5 : decode cX12_comparison 5 = .ok (.getfield 309, 3) := by decide +kernel
theorem dX12_comparison_8 : decode cX12_comparison 8 = .ok (.ifCond .eq 7, 3) := by decide +kernel
theorem dX12_comparison_11 : decode cX12_comparison 11 = .ok (.iconst (-1), 1) := by decide +kernel
theorem dX12_comparison_12 : decode cX12_comparison 12 = .ok (.goto 11, 3) := by decide +kernel
theorem dX12_comparison_15 : decode cX12_comparison 15 = .ok (.aload_n 0, 1) := by decide +kernel
theorem dX12_comparison_16 : decode cX12_comparison 16 = .ok (.aload_n 0, 1) := by decide +kernel
theorem dX12_comparison_17 : decode cX12_comparison 17 = .ok (.getfield 297, 3) := by decide +kernel
theorem dX12_comparison_20 : decode cX12_comparison 20 = .ok (.invokevirtual 300, 3) := by decide +kernel
theorem dX12_comparison_23 : decode cX12_comparison 23 = .ok (.istore_n 1, 1) := by decide +kernel
theorem dX12_comparison_24 : decode cX12_comparison 24 = .ok (.aload_n 0, 1) := by decide +kernel
theorem dX12_comparison_25 : decode cX12_comparison 25 = .ok (.iload_n 1, 1) := by decide +kernel
theorem dX12_comparison_26 : decode cX12_comparison 26 = .ok (.bipush 60, 2) := by decide +kernel
theorem dX12_comparison_28 : decode cX12_comparison 28 = .ok (.if_icmp .eq 15, 3) := by decide +kernel
theorem dX12_comparison_31 : decode cX12_comparison 31 = .ok (.iload_n 1, 1) := by decide +kernel
theorem dX12_comparison_32 : decode cX12_comparison 32 = .ok (.bipush 61, 2) := by decide +kernel
theorem dX12_comparison_34 : decode cX12_comparison 34 = .ok (.if_icmp .eq 9, 3) := by decide +kernel
theorem dX12_comparison_37 : decode cX12_comparison 37 = .ok (.iload_n 1, 1) := by decide +kernel
theorem dX12_comparison_38 : decode cX12_comparison 38 = .ok (.bipush 62, 2) := by decide +kernel
theorem dX12_comparison_40 : decode cX12_comparison 40 = .ok (.if_icmp .ne 7, 3) := by decide +kernel
theorem dX12_comparison_43 : decode cX12_comparison 43 = .ok (.iconst 1, 1) := by decide +kernel
theorem dX12_comparison_44 : decode cX12_comparison 44 = .ok (.goto 4, 3) := by decide +kernel
theorem dX12_comparison_47 : decode cX12_comparison 47 = .ok (.iconst 0, 1) := by decide +kernel
theorem dX12_comparison_48 : decode cX12_comparison 48 = .ok (.invokevirtual 323, 3) := by decide +kernel
theorem dX12_comparison_51 : decode cX12_comparison 51 = .ok (.aload_n 0, 1) := by decide +kernel
theorem dX12_comparison_52 : decode cX12_comparison 52 = .ok (.invokevirtual 365, 3) := by decide +kernel
theorem dX12_comparison_55 : decode cX12_comparison 55 = .ok (.aload_n 0, 1) := by decide +kernel
theorem dX12_comparison_56 : decode cX12_comparison 56 = .ok (.iload_n 1, 1) := by decide +kernel
theorem dX12_comparison_57 : decode cX12_comparison 57 = .ok (.bipush 60, 2) := by decide +kernel
theorem dX12_comparison_59 : decode cX12_comparison 59 = .ok (.if_icmp .ne 8, 3) := by decide +kernel
theorem dX12_comparison_62 : decode cX12_comparison 62 = .ok (.bipush (-11), 2) := by decide +kernel
theorem dX12_comparison_64 : decode cX12_comparison 64 = .ok (.goto 16, 3) := by decide +kernel
theorem dX12_comparison_67 : decode cX12_comparison 67 = .ok (.iload_n 1, 1) := by decide +kernel
theorem dX12_comparison_68 : decode cX12_comparison 68 = .ok (.bipush 61, 2) := by decide +kernel
theorem dX12_comparison_70 : decode cX12_comparison 70 = .ok (.if_icmp .ne 8, 3) := by decide +kernel
theorem dX12_comparison_73 : decode cX12_comparison 73 = .ok (.bipush (-12), 2) := by decide +kernel
theorem dX12_comparison_75 : decode cX12_comparison 75 = .ok (.goto 5, 3) := by decide +kernel
theorem dX12_comparison_78 : decode cX12_comparison 78 = .ok (.bipush (-13), 2) := by decide +kernel
theorem dX12_comparison_80 : decode cX12_comparison 80 = .ok (.invokevirtual 359, 3) := by decide +kernel
theorem dX12_comparison_83 : decode cX12_comparison 83 = .ok (.return_, 1) := by decide +kernel
theorem dX12_one_0 : decode cX12_one 0 = .ok (.iconst 0, 1) := by decide +kernel
theorem dX12_one_1 : decode cX12_one 1 = .ok (.istore_n 1, 1) := by decide +kernel
theorem dX12_one_2 : decode cX12_one 2 = .ok (.aload_n 0, 1) := by decide +kernel
theorem dX12_one_3 : decode cX12_one 3 = .ok (.invokevirtual 327, 3) := by decide +kernel
theorem dX12_one_6 : decode cX12_one 6 = .ok (.ldc2_w 368, 3) := by decide +kernel
theorem dX12_one_9 : decode cX12_one 9 = .ok (.lcmp, 1) := by decide +kernel
theorem dX12_one_10 : decode cX12_one 10 = .ok (.ifCond .ne 21, 3) := by decide +kernel
theorem dX12_one_13 : decode cX12_one 13 = .ok (.iload_n 1, 1) := by decide +kernel
theorem dX12_one_14 : decode cX12_one 14 = .ok (.ifCond .ne 7, 3) := by decide +kernel
theorem dX12_one_17 : decode cX12_one 17 = .ok (.iconst 1, 1) := by decide +kernel
theorem dX12_one_18 : decode cX12_one 18 = .ok (.goto 4, 3) := by decide +kernel
theorem dX12_one_21 : decode cX12_one 21 = .ok (.iconst 0, 1) := by decide +kernel
theorem dX12_one_22 : decode cX12_one 22 = .ok (.istore_n 1, 1) := by decide +kernel
theorem dX12_one_23 : decode cX12_one 23 = .ok (.aload_n 0, 1) := by decide +kernel
theorem dX12_one_24 : decode cX12_one 24 = .ok (.iconst 1, 1) := by decide +kernel
theorem dX12_one_25 : decode cX12_one 25 = .ok (.invokevirtual 323, 3) := by decide +kernel
theorem dX12_one_28 : decode cX12_one 28 = .ok (.goto (-26), 3) := by decide +kernel
theorem dX12_one_31 : decode cX12_one 31 = .ok (.aload_n 0, 1) := by decide +kernel
theorem dX12_one_32 : decode cX12_one 32 = .ok (.getfield 309, 3) := by decide +kernel
theorem dX12_one_35 : decode cX12_one 35 = .ok (.ifCond .ne 89, 3) := by decide +kernel
theorem dX12_one_38 : decode cX12_one 38 = .ok (.aload_n 0, 1) := by decide +kernel
theorem dX12_one_39 : decode cX12_one 39 = .ok (.aload_n 0, 1) := by decide +kernel
theorem dX12_one_40 : decode cX12_one 40 = .ok (.getfield 297, 3) := by decide +kernel
theorem dX12_one_43 : decode cX12_one 43 = .ok (.invokevirtual 300, 3) := by decide +kernel
theorem dX12_one_46 : decode cX12_one 46 = .ok (.bipush 40, 2) := by decide +kernel
theorem dX12_one_48 : decode cX12_one 48 = .ok (.if_icmp .ne 76, 3) := by decide +kernel
theorem dX12_one_51 : decode cX12_one 51 = .ok (.aload_n 0, 1) := by decide +kernel
theorem dX12_one_52 : decode cX12_one 52 = .ok (.aload_n 0, 1) := by decide +kernel
theorem dX12_one_53 : decode cX12_one 53 = .ok (.getfield 370, 3) := by decide +kernel
theorem dX12_one_56 : decode cX12_one 56 = .ok (.iconst 3, 1) := by decide +kernel
theorem dX12_one_57 : decode cX12_one 57 = .ok (.if_icmp .ge 7, 3) := by decide +kernel
theorem dX12_one_60 : decode cX12_one 60 = .ok (.iconst 1, 1) := by decide +kernel
theorem dX12_one_61 : decode cX12_one 61 = .ok (.goto 4, 3) := by decide +kernel
theorem dX12_one_64 : decode cX12_one 64 = .ok (.iconst 0, 1) := by decide +kernel
theorem dX12_one_65 : decode cX12_one 65 = .ok (.invokevirtual 323, 3) := by decide +kernel
theorem dX12_one_68 : decode cX12_one 68 = .ok (.aload_n 0, 1) := by decide +kernel
theorem dX12_one_69 : decode cX12_one 69 = .ok (.dup, 1) := by decide +kernel
theorem dX12_one_70 : decode cX12_one 70 = .ok (.getfield 370, 3) := by decide +kernel
theorem dX12_one_73 : decode cX12_one 73 = .ok (.iconst 1, 1) := by decide +kernel
theorem dX12_one_74 : decode cX12_one 74 = .ok (.iadd, 1) := by decide +kernel
theorem dX12_one_75 : decode cX12_one 75 = .ok (.putfield 370, 3) := by decide +kernel
theorem dX12_one_78 : decode cX12_one 78 = .ok (.aload_n 0, 1) := by decide +kernel
theorem dX12_one_79 : decode cX12_one 79 = .ok (.invokevirtual 373, 3) := by decide +kernel
theorem dX12_one_82 : decode cX12_one 82 = .ok (.aload_n 0, 1) := by decide +kernel
theorem dX12_one_83 : decode cX12_one 83 = .ok (.dup, 1) := by decide +kernel
theorem dX12_one_84 : decode cX12_one 84 = .ok (.getfield 370, 3) := by decide +kernel
theorem dX12_one_87 : decode cX12_one 87 = .ok (.iconst 1, 1) := by decide +kernel
theorem dX12_one_88 : decode cX12_one 88 = .ok (.isub, 1) := by decide +kernel
theorem dX12_one_89 : decode cX12_one 89 = .ok (.putfield 370, 3) := by decide +kernel
theorem dX12_one_92 : decode cX12_one 92 = .ok (.aload_n 0, 1) := by decide +kernel
theorem dX12_one_93 : decode cX12_one 93 = .ok (.aload_n 0, 1) := by decide +kernel
theorem dX12_one_94 : decode cX12_one 94 = .ok (.getfield 309, 3) := by decide +kernel
theorem dX12_one_97 : decode cX12_one 97 = .ok (.ifCond .ne 20, 3) := by decide +kernel
theorem dX12_one_100 : decode cX12_one 100 = .ok (.aload_n 0, 1) := by decide +kernel
theorem dX12_one_101 : decode cX12_one 101 = .ok (.aload_n 0, 1) := by decide +kernel
theorem dX12_one_102 : decode cX12_one 102 = .ok (.getfield 297, 3) := by decide +kernel
theorem dX12_one_105 : decode cX12_one 105 = .ok (.invokevirtual 300, 3) := by decide +kernel
theorem dX12_one_108 : decode cX12_one 108 = .ok (.bipush 41, 2) := by decide +kernel
theorem dX12_one_110 : decode cX12_one 110 = .ok (.if_icmp .ne 7, 3) := by decide +kernel
theorem dX12_one_113 : decode cX12_one 113 = .ok (.iconst 1, 1) := by decide +kernel
theorem dX12_one_114 : decode cX12_one 114 = .ok (.goto 4, 3) := by decide +kernel
theorem dX12_one_117 : decode cX12_one 117 = .ok (.iconst 0, 1) := by decide +kernel
theorem dX12_one_118 : decode cX12_one 118 = .ok (.invokevirtual 323, 3) := by decide +kernel
theorem dX12_one_121 : decode cX12_one 121 = .ok (.goto 7, 3) := by decide +kernel
theorem dX12_one_124 : decode cX12_one 124 = .ok (.aload_n 0, 1) := by decide +kernel
theorem dX12_one_125 : decode cX12_one 125 = .ok (.invokevirtual 376, 3) := by decide +kernel
theorem dX12_one_128 : decode cX12_one 128 = .ok (.iload_n 1, 1) := by decide +kernel
theorem dX12_one_129 : decode cX12_one 129 = .ok (.ifCond .eq 9, 3) := by decide +kernel
theorem dX12_one_132 : decode cX12_one 132 = .ok (.aload_n 0, 1) := by decide +kernel
theorem dX12_one_133 : decode cX12_one 133 = .ok (.bipush (-20), 2) := by decide +kernel
theorem dX12_one_135 : decode cX12_one 135 = .ok (.invokevirtual 359, 3) := by decide +kernel
theorem dX12_one_138 : decode cX12_one 138 = .ok (.return_, 1) := by decide +kernel

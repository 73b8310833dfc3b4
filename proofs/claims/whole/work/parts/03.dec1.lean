theorem dX6_go_35 : decode cX6_go 35 = .ok (.invokevirtual 60, 3) := by decide +kernel
theorem dX6_go_38 : decode cX6_go 38 = .ok (.ireturn, 1) := by decide +kernel
theorem dX6_go_39 : decode cX6_go 39 = .ok (.aload_n 0, 1) := by decide +kernel
theorem dX6_go_40 : decode cX6_go 40 = .ok (.getfield 12, 3) := by decide +kernel
theorem dX6_go_43 : decode cX6_go 43 = .ok (.iload_n 1, 1) := by decide +kernel
theorem dX6_go_44 : decode cX6_go 44 = .ok (.iconst 0, 1) := by decide +kernel
theorem dX6_go_45 : decode cX6_go 45 = .ok (.invokevirtual 129, 3) := by decide +kernel
theorem dX6_go_48 : decode cX6_go 48 = .ok (.aload_n 0, 1) := by decide +kernel
theorem dX6_go_49 : decode cX6_go 49 = .ok (.getfield 12, 3) := by decide +kernel
theorem dX6_go_52 : decode cX6_go 52 = .ok (.invokevirtual 132, 3) := by decide +kernel
theorem dX6_go_55 : decode cX6_go 55 = .ok (.ireturn, 1) := by decide +kernel
theorem dX6_now_0 : decode cX6_now 0 = .ok (.iload_n 1, 1) := by decide +kernel
theorem dX6_now_1 : decode cX6_now 1 = .ok (.tableswitch 120 0 6 #[43, 51, 59, 67, 80, 88, 96], 43) := by decide +kernel
theorem dX6_now_44 : decode cX6_now 44 = .ok (.aload_n 0, 1) := by decide +kernel
theorem dX6_now_45 : decode cX6_now 45 = .ok (.getfield 12, 3) := by decide +kernel
theorem dX6_now_48 : decode cX6_now 48 = .ok (.getfield 125, 3) := by decide +kernel
theorem dX6_now_51 : decode cX6_now 51 = .ok (.ireturn, 1) := by decide +kernel
theorem dX6_now_52 : decode cX6_now 52 = .ok (.aload_n 0, 1) := by decide +kernel
theorem dX6_now_53 : decode cX6_now 53 = .ok (.getfield 12, 3) := by decide +kernel
theorem dX6_now_56 : decode cX6_now 56 = .ok (.invokevirtual 132, 3) := by decide +kernel
theorem dX6_now_59 : decode cX6_now 59 = .ok (.ireturn, 1) := by decide +kernel
theorem dX6_now_60 : decode cX6_now 60 = .ok (.aload_n 0, 1) := by decide +kernel
theorem dX6_now_61 : decode cX6_now 61 = .ok (.getfield 12, 3) := by decide +kernel
theorem dX6_now_64 : decode cX6_now 64 = .ok (.invokevirtual 135, 3) := by decide +kernel
theorem dX6_now_67 : decode cX6_now 67 = .ok (.ireturn, 1) := by decide +kernel
theorem dX6_now_68 : decode cX6_now 68 = .ok (.ldc 138, 2) := by decide +kernel
theorem dX6_now_70 : decode cX6_now 70 = .ok (.aload_n 0, 1) := by decide +kernel
theorem dX6_now_71 : decode cX6_now 71 = .ok (.getfield 12, 3) := by decide +kernel
theorem dX6_now_74 : decode cX6_now 74 = .ok (.invokevirtual 139, 3) := by decide +kernel
theorem dX6_now_77 : decode cX6_now 77 = .ok (.iconst (-1), 1) := by decide +kernel
theorem dX6_now_78 : decode cX6_now 78 = .ok (.ixor, 1) := by decide +kernel
theorem dX6_now_79 : decode cX6_now 79 = .ok (.iand, 1) := by decide +kernel
theorem dX6_now_80 : decode cX6_now 80 = .ok (.ireturn, 1) := by decide +kernel
theorem dX6_now_81 : decode cX6_now 81 = .ok (.aload_n 0, 1) := by decide +kernel
theorem dX6_now_82 : decode cX6_now 82 = .ok (.getfield 12, 3) := by decide +kernel
theorem dX6_now_85 : decode cX6_now 85 = .ok (.invokevirtual 142, 3) := by decide +kernel
theorem dX6_now_88 : decode cX6_now 88 = .ok (.ireturn, 1) := by decide +kernel
theorem dX6_now_89 : decode cX6_now 89 = .ok (.aload_n 0, 1) := by decide +kernel
theorem dX6_now_90 : decode cX6_now 90 = .ok (.getfield 12, 3) := by decide +kernel
theorem dX6_now_93 : decode cX6_now 93 = .ok (.invokevirtual 145, 3) := by decide +kernel
theorem dX6_now_96 : decode cX6_now 96 = .ok (.ireturn, 1) := by decide +kernel
theorem dX6_now_97 : decode cX6_now 97 = .ok (.aload_n 0, 1) := by decide +kernel
theorem dX6_now_98 : decode cX6_now 98 = .ok (.getfield 12, 3) := by decide +kernel
theorem dX6_now_101 : decode cX6_now 101 = .ok (.aload_n 0, 1) := by decide +kernel
theorem dX6_now_102 : decode cX6_now 102 = .ok (.getfield 12, 3) := by decide +kernel
theorem dX6_now_105 : decode cX6_now 105 = .ok (.getfield 64, 3) := by decide +kernel
theorem dX6_now_108 : decode cX6_now 108 = .ok (.aload_n 0, 1) := by decide +kernel
theorem dX6_now_109 : decode cX6_now 109 = .ok (.getfield 12, 3) := by decide +kernel
theorem dX6_now_112 : decode cX6_now 112 = .ok (.invokevirtual 148, 3) := by decide +kernel
theorem dX6_now_115 : decode cX6_now 115 = .ok (.iaload, 1) := by decide +kernel
theorem dX6_now_116 : decode cX6_now 116 = .ok (.iconst 0, 1) := by decide +kernel
theorem dX6_now_117 : decode cX6_now 117 = .ok (.invokevirtual 151, 3) := by decide +kernel
theorem dX6_now_120 : decode cX6_now 120 = .ok (.ireturn, 1) := by decide +kernel
theorem dX6_now_121 : decode cX6_now 121 = .ok (.aload_n 0, 1) := by decide +kernel
theorem dX6_now_122 : decode cX6_now 122 = .ok (.ldc 59, 2) := by decide +kernel
theorem dX6_now_124 : decode cX6_now 124 = .ok (.invokevirtual 60, 3) := by decide +kernel
theorem dX6_now_127 : decode cX6_now 127 = .ok (.ireturn, 1) := by decide +kernel
theorem dX6_ahead_0 : decode cX6_ahead 0 = .ok (.aload_n 0, 1) := by decide +kernel
theorem dX6_ahead_1 : decode cX6_ahead 1 = .ok (.getfield 12, 3) := by decide +kernel
theorem dX6_ahead_4 : decode cX6_ahead 4 = .ok (.iload_n 1, 1) := by decide +kernel
theorem dX6_ahead_5 : decode cX6_ahead 5 = .ok (.invokevirtual 88, 3) := by decide +kernel
theorem dX6_ahead_8 : decode cX6_ahead 8 = .ok (.ifCond .eq 19, 3) := by decide +kernel
theorem dX6_ahead_11 : decode cX6_ahead 11 = .ok (.iload_n 2, 1) := by decide +kernel
theorem dX6_ahead_12 : decode cX6_ahead 12 = .ok (.invokestatic 154, 3) := by decide +kernel
theorem dX6_ahead_15 : decode cX6_ahead 15 = .ok (.ifCond .eq 12, 3) := by decide +kernel
theorem dX6_ahead_18 : decode cX6_ahead 18 = .ok (.iload_n 3, 1) := by decide +kernel
theorem dX6_ahead_19 : decode cX6_ahead 19 = .ok (.bipush 100, 2) := by decide +kernel
theorem dX6_ahead_21 : decode cX6_ahead 21 = .ok (.invokestatic 51, 3) := by decide +kernel
theorem dX6_ahead_24 : decode cX6_ahead 24 = .ok (.ifCond .ne 10, 3) := by decide +kernel
theorem dX6_ahead_27 : decode cX6_ahead 27 = .ok (.aload_n 0, 1) := by decide +kernel
theorem dX6_ahead_28 : decode cX6_ahead 28 = .ok (.ldc 59, 2) := by decide +kernel
theorem dX6_ahead_30 : decode cX6_ahead 30 = .ok (.invokevirtual 60, 3) := by decide +kernel
theorem dX6_ahead_33 : decode cX6_ahead 33 = .ok (.ireturn, 1) := by decide +kernel
theorem dX6_ahead_34 : decode cX6_ahead 34 = .ok (.aload_n 0, 1) := by decide +kernel
theorem dX6_ahead_35 : decode cX6_ahead 35 = .ok (.getfield 19, 3) := by decide +kernel
theorem dX6_ahead_38 : decode cX6_ahead 38 = .ok (.aload_n 0, 1) := by decide +kernel
theorem dX6_ahead_39 : decode cX6_ahead 39 = .ok (.getfield 12, 3) := by decide +kernel
theorem dX6_ahead_42 : decode cX6_ahead 42 = .ok (.invokevirtual 157, 3) := by decide +kernel
theorem dX6_ahead_45 : decode cX6_ahead 45 = .ok (.aload_n 0, 1) := by decide +kernel
theorem dX6_ahead_46 : decode cX6_ahead 46 = .ok (.getfield 19, 3) := by decide +kernel
theorem dX6_ahead_49 : decode cX6_ahead 49 = .ok (.iload_n 3, 1) := by decide +kernel
theorem dX6_ahead_50 : decode cX6_ahead 50 = .ok (.iconst 0, 1) := by decide +kernel
theorem dX6_ahead_51 : decode cX6_ahead 51 = .ok (.invokevirtual 129, 3) := by decide +kernel
theorem dX6_ahead_54 : decode cX6_ahead 54 = .ok (.aload_n 0, 1) := by decide +kernel
theorem dX6_ahead_55 : decode cX6_ahead 55 = .ok (.getfield 19, 3) := by decide +kernel
theorem dX6_ahead_58 : decode cX6_ahead 58 = .ok (.getfield 96, 3) := by decide +kernel
theorem dX6_ahead_61 : decode cX6_ahead 61 = .ok (.iload_n 1, 1) := by decide +kernel
theorem dX6_ahead_62 : decode cX6_ahead 62 = .ok (.aaload, 1) := by decide +kernel
theorem dX6_ahead_63 : decode cX6_ahead 63 = .ok (.iload_n 2, 1) := by decide +kernel
theorem dX6_ahead_64 : decode cX6_ahead 64 = .ok (.invokevirtual 100, 3) := by decide +kernel
theorem dX6_ahead_67 : decode cX6_ahead 67 = .ok (.ireturn, 1) := by decide +kernel
theorem dX6_hears_0 : decode cX6_hears 0 = .ok (.aload_n 0, 1) := by decide +kernel
theorem dX6_hears_1 : decode cX6_hears 1 = .ok (.getfield 12, 3) := by decide +kernel
theorem dX6_hears_4 : decode cX6_hears 4 = .ok (.iload_n 1, 1) := by decide +kernel
theorem dX6_hears_5 : decode cX6_hears 5 = .ok (.invokevirtual 88, 3) := by decide +kernel
theorem dX6_hears_8 : decode cX6_hears 8 = .ok (.ifCond .eq 12, 3) := by decide +kernel
theorem dX6_hears_11 : decode cX6_hears 11 = .ok (.iload_n 2, 1) := by decide +kernel
theorem dX6_hears_12 : decode cX6_hears 12 = .ok (.bipush 15, 2) := by decide +kernel
theorem dX6_hears_14 : decode cX6_hears 14 = .ok (.invokestatic 51, 3) := by decide +kernel
theorem dX6_hears_17 : decode cX6_hears 17 = .ok (.ifCond .ne 10, 3) := by decide +kernel
theorem dX6_hears_20 : decode cX6_hears 20 = .ok (.aload_n 0, 1) := by decide +kernel
theorem dX6_hears_21 : decode cX6_hears 21 = .ok (.ldc 59, 2) := by decide +kernel
theorem dX6_hears_23 : decode cX6_hears 23 = .ok (.invokevirtual 60, 3) := by decide +kernel
theorem dX6_hears_26 : decode cX6_hears 26 = .ok (.ireturn, 1) := by decide +kernel
theorem dX6_hears_27 : decode cX6_hears 27 = .ok (.aload_n 0, 1) := by decide +kernel
theorem dX6_hears_28 : decode cX6_hears 28 = .ok (.iconst 0, 1) := by decide +kernel
theorem dX6_hears_29 : decode cX6_hears 29 = .ok (.iload_n 1, 1) := by decide +kernel
theorem dX6_hears_30 : decode cX6_hears 30 = .ok (.iload_n 2, 1) := by decide +kernel
theorem dX6_hears_31 : decode cX6_hears 31 = .ok (.invokevirtual 161, 3) := by decide +kernel
theorem dX6_hears_34 : decode cX6_hears 34 = .ok (.ireturn, 1) := by decide +kernel
theorem dX6_wise_0 : decode cX6_wise 0 = .ok (.aload_n 0, 1) := by decide +kernel
theorem dX6_wise_1 : decode cX6_wise 1 = .ok (.getfield 12, 3) := by decide +kernel
theorem dX6_wise_4 : decode cX6_wise 4 = .ok (.iload_n 1, 1) := by decide +kernel
theorem dX6_wise_5 : decode cX6_wise 5 = .ok (.invokevirtual 88, 3) := by decide +kernel
theorem dX6_wise_8 : decode cX6_wise 8 = .ok (.ifCond .eq 12, 3) := by decide +kernel
theorem dX6_wise_11 : decode cX6_wise 11 = .ok (.iload_n 2, 1) := by decide +kernel
theorem dX6_wise_12 : decode cX6_wise 12 = .ok (.bipush 16, 2) := by decide +kernel
theorem dX6_wise_14 : decode cX6_wise 14 = .ok (.invokestatic 51, 3) := by decide +kernel
theorem dX6_wise_17 : decode cX6_wise 17 = .ok (.ifCond .ne 10, 3) := by decide +kernel
theorem dX6_wise_20 : decode cX6_wise 20 = .ok (.aload_n 0, 1) := by decide +kernel
theorem dX6_wise_21 : decode cX6_wise 21 = .ok (.ldc 59, 2) := by decide +kernel
theorem dX6_wise_23 : decode cX6_wise 23 = .ok (.invokevirtual 60, 3) := by decide +kernel
theorem dX6_wise_26 : decode cX6_wise 26 = .ok (.ireturn, 1) := by decide +kernel
theorem dX6_wise_27 : decode cX6_wise 27 = .ok (.aload_n 0, 1) := by decide +kernel
theorem dX6_wise_28 : decode cX6_wise 28 = .ok (.iconst 1, 1) := by decide +kernel
theorem dX6_wise_29 : decode cX6_wise 29 = .ok (.iload_n 1, 1) := by decide +kernel
theorem dX6_wise_30 : decode cX6_wise 30 = .ok (.iload_n 2, 1) := by decide +kernel
theorem dX6_wise_31 : decode cX6_wise 31 = .ok (.invokevirtual 161, 3) := by decide +kernel
theorem dX6_wise_34 : decode cX6_wise 34 = .ok (.ireturn, 1) := by decide +kernel
theorem dX6_out_0 : decode cX6_out 0 = .ok (.iload_n 1, 1) := by decide +kernel
theorem dX6_out_1 : decode cX6_out 1 = .ok (.ldc 138, 2) := by decide +kernel
theorem dX6_out_3 : decode cX6_out 3 = .ok (.invokestatic 51, 3) := by decide +kernel
theorem dX6_out_6 : decode cX6_out 6 = .ok (.ifCond .ne 10, 3) := by decide +kernel
theorem dX6_out_9 : decode cX6_out 9 = .ok (.aload_n 0, 1) := by decide +kernel
theorem dX6_out_10 : decode cX6_out 10 = .ok (.ldc 59, 2) := by decide +kernel
theorem dX6_out_12 : decode cX6_out 12 = .ok (.invokevirtual 60, 3) := by decide +kernel
theorem dX6_out_15 : decode cX6_out 15 = .ok (.ireturn, 1) := by decide +kernel
theorem dX6_out_16 : decode cX6_out 16 = .ok (.aload_n 0, 1) := by decide +kernel
theorem dX6_out_17 : decode cX6_out 17 = .ok (.iconst 2, 1) := by decide +kernel
theorem dX6_out_18 : decode cX6_out 18 = .ok (.iconst 0, 1) := by decide +kernel
theorem dX6_out_19 : decode cX6_out 19 = .ok (.iload_n 1, 1) := by decide +kernel
theorem dX6_out_20 : decode cX6_out 20 = .ok (.invokevirtual 161, 3) := by decide +kernel
theorem dX6_out_23 : decode cX6_out 23 = .ok (.ireturn, 1) := by decide +kernel
theorem dX6_canBeAskedAhead_0 : decode cX6_canBeAskedAhead 0 = .ok (.iload_n 0, 1) := by decide +kernel
theorem dX6_canBeAskedAhead_1 : decode cX6_canBeAskedAhead 1 = .ok (.iconst 1, 1) := by decide +kernel
theorem dX6_canBeAskedAhead_2 : decode cX6_canBeAskedAhead 2 = .ok (.if_icmp .eq 17, 3) := by decide +kernel
theorem dX6_canBeAskedAhead_5 : decode cX6_canBeAskedAhead 5 = .ok (.iload_n 0, 1) := by decide +kernel
theorem dX6_canBeAskedAhead_6 : decode cX6_canBeAskedAhead 6 = .ok (.bipush 6, 2) := by decide +kernel
theorem dX6_canBeAskedAhead_8 : decode cX6_canBeAskedAhead 8 = .ok (.invokestatic 51, 3) := by decide +kernel
theorem dX6_canBeAskedAhead_11 : decode cX6_canBeAskedAhead 11 = .ok (.ifCond .eq 12, 3) := by decide +kernel
theorem dX6_canBeAskedAhead_14 : decode cX6_canBeAskedAhead 14 = .ok (.iload_n 0, 1) := by decide +kernel
theorem dX6_canBeAskedAhead_15 : decode cX6_canBeAskedAhead 15 = .ok (.iconst 3, 1) := by decide +kernel
theorem dX6_canBeAskedAhead_16 : decode cX6_canBeAskedAhead 16 = .ok (.if_icmp .lt 7, 3) := by decide +kernel
theorem dX6_canBeAskedAhead_19 : decode cX6_canBeAskedAhead 19 = .ok (.iconst 1, 1) := by decide +kernel
theorem dX6_canBeAskedAhead_20 : decode cX6_canBeAskedAhead 20 = .ok (.goto 4, 3) := by decide +kernel
theorem dX6_canBeAskedAhead_23 : decode cX6_canBeAskedAhead 23 = .ok (.iconst 0, 1) := by decide +kernel
theorem dX6_canBeAskedAhead_24 : decode cX6_canBeAskedAhead 24 = .ok (.ireturn, 1) := by decide +kernel
theorem dX6_daysUntil_0 : decode cX6_daysUntil 0 = .ok (.aload_n 0, 1) := by decide +kernel
theorem dX6_daysUntil_1 : decode cX6_daysUntil 1 = .ok (.getfield 19, 3) := by decide +kernel
theorem dX6_daysUntil_4 : decode cX6_daysUntil 4 = .ok (.aload_n 0, 1) := by decide +kernel
theorem dX6_daysUntil_5 : decode cX6_daysUntil 5 = .ok (.getfield 12, 3) := by decide +kernel
theorem dX6_daysUntil_8 : decode cX6_daysUntil 8 = .ok (.invokevirtual 157, 3) := by decide +kernel
theorem dX6_daysUntil_11 : decode cX6_daysUntil 11 = .ok (.iconst 0, 1) := by decide +kernel
theorem dX6_daysUntil_12 : decode cX6_daysUntil 12 = .ok (.istore 4, 2) := by decide +kernel
theorem dX6_daysUntil_14 : decode cX6_daysUntil 14 = .ok (.iload 4, 2) := by decide +kernel
theorem dX6_daysUntil_16 : decode cX6_daysUntil 16 = .ok (.sipush 200, 3) := by decide +kernel
theorem dX6_daysUntil_19 : decode cX6_daysUntil 19 = .ok (.if_icmp .gt 30, 3) := by decide +kernel
theorem dX6_daysUntil_22 : decode cX6_daysUntil 22 = .ok (.aload_n 0, 1) := by decide +kernel
theorem dX6_daysUntil_23 : decode cX6_daysUntil 23 = .ok (.iload_n 1, 1) := by decide +kernel
theorem dX6_daysUntil_24 : decode cX6_daysUntil 24 = .ok (.iload_n 2, 1) := by decide +kernel
theorem dX6_daysUntil_25 : decode cX6_daysUntil 25 = .ok (.iload_n 3, 1) := by decide +kernel
theorem dX6_daysUntil_26 : decode cX6_daysUntil 26 = .ok (.invokevirtual 165, 3) := by decide +kernel
theorem dX6_daysUntil_29 : decode cX6_daysUntil 29 = .ok (.ifCond .eq 6, 3) := by decide +kernel
theorem dX6_daysUntil_32 : decode cX6_daysUntil 32 = .ok (.iload 4, 2) := by decide +kernel
theorem dX6_daysUntil_34 : decode cX6_daysUntil 34 = .ok (.ireturn, 1) := by decide +kernel
theorem dX6_daysUntil_35 : decode cX6_daysUntil 35 = .ok (.aload_n 0, 1) := by decide +kernel
theorem dX6_daysUntil_36 : decode cX6_daysUntil 36 = .ok (.getfield 19, 3) := by decide +kernel
theorem dX6_daysUntil_39 : decode cX6_daysUntil 39 = .ok (.iconst 0, 1) := by decide +kernel
theorem dX6_daysUntil_40 : decode cX6_daysUntil 40 = .ok (.invokevirtual 169, 3) := by decide +kernel
theorem dX6_daysUntil_43 : decode cX6_daysUntil 43 = .ok (.iinc 4 1, 3) := by decide +kernel
theorem dX6_daysUntil_46 : decode cX6_daysUntil 46 = .ok (.goto (-32), 3) := by decide +kernel
theorem dX6_daysUntil_49 : decode cX6_daysUntil 49 = .ok (.aload_n 0, 1) := by decide +kernel
theorem dX6_daysUntil_50 : decode cX6_daysUntil 50 = .ok (.ldc 173, 2) := by decide +kernel
theorem dX6_daysUntil_52 : decode cX6_daysUntil 52 = .ok (.invokevirtual 60, 3) := by decide +kernel
theorem dX6_daysUntil_55 : decode cX6_daysUntil 55 = .ok (.ireturn, 1) := by decide +kernel
theorem dX6_isSoInTrial_0 : decode cX6_isSoInTrial 0 = .ok (.iload_n 1, 1) := by decide +kernel
theorem dX6_isSoInTrial_1 : decode cX6_isSoInTrial 1 = .ok (.lookupswitch 62 #[(0, 27), (1, 44)], 27) := by decide +kernel
theorem dX6_isSoInTrial_28 : decode cX6_isSoInTrial 28 = .ok (.iload_n 3, 1) := by decide +kernel
theorem dX6_isSoInTrial_29 : decode cX6_isSoInTrial 29 = .ok (.aload_n 0, 1) := by decide +kernel
theorem dX6_isSoInTrial_30 : decode cX6_isSoInTrial 30 = .ok (.getfield 19, 3) := by decide +kernel
theorem dX6_isSoInTrial_33 : decode cX6_isSoInTrial 33 = .ok (.getfield 96, 3) := by decide +kernel
theorem dX6_isSoInTrial_36 : decode cX6_isSoInTrial 36 = .ok (.iload_n 2, 1) := by decide +kernel
theorem dX6_isSoInTrial_37 : decode cX6_isSoInTrial 37 = .ok (.aaload, 1) := by decide +kernel
theorem dX6_isSoInTrial_38 : decode cX6_isSoInTrial 38 = .ok (.getfield 174, 3) := by decide +kernel
theorem dX6_isSoInTrial_41 : decode cX6_isSoInTrial 41 = .ok (.invokestatic 177, 3) := by decide +kernel
theorem dX6_isSoInTrial_44 : decode cX6_isSoInTrial 44 = .ok (.ireturn, 1) := by decide +kernel
theorem dX6_isSoInTrial_45 : decode cX6_isSoInTrial 45 = .ok (.aload_n 0, 1) := by decide +kernel
theorem dX6_isSoInTrial_46 : decode cX6_isSoInTrial 46 = .ok (.getfield 19, 3) := by decide +kernel
theorem dX6_isSoInTrial_49 : decode cX6_isSoInTrial 49 = .ok (.iload_n 2, 1) := by decide +kernel
theorem dX6_isSoInTrial_50 : decode cX6_isSoInTrial 50 = .ok (.invokevirtual 180, 3) := by decide +kernel
theorem dX6_isSoInTrial_53 : decode cX6_isSoInTrial 53 = .ok (.iload_n 3, 1) := by decide +kernel
theorem dX6_isSoInTrial_54 : decode cX6_isSoInTrial 54 = .ok (.if_icmp .lt 7, 3) := by decide +kernel
theorem dX6_isSoInTrial_57 : decode cX6_isSoInTrial 57 = .ok (.iconst 1, 1) := by decide +kernel
theorem dX6_isSoInTrial_58 : decode cX6_isSoInTrial 58 = .ok (.goto 4, 3) := by decide +kernel
theorem dX6_isSoInTrial_61 : decode cX6_isSoInTrial 61 = .ok (.iconst 0, 1) := by decide +kernel
theorem dX6_isSoInTrial_62 : decode cX6_isSoInTrial 62 = .ok (.ireturn, 1) := by decide +kernel
theorem dX6_isSoInTrial_63 : decode cX6_isSoInTrial 63 = .ok (.iload_n 3, 1) := by decide +kernel
theorem dX6_isSoInTrial_64 : decode cX6_isSoInTrial 64 = .ok (.aload_n 0, 1) := by decide +kernel
theorem dX6_isSoInTrial_65 : decode cX6_isSoInTrial 65 = .ok (.getfield 19, 3) := by decide +kernel
theorem dX6_isSoInTrial_68 : decode cX6_isSoInTrial 68 = .ok (.invokevirtual 139, 3) := by decide +kernel
theorem dX6_isSoInTrial_71 : decode cX6_isSoInTrial 71 = .ok (.iconst (-1), 1) := by decide +kernel
theorem dX6_isSoInTrial_72 : decode cX6_isSoInTrial 72 = .ok (.ixor, 1) := by decide +kernel
theorem dX6_isSoInTrial_73 : decode cX6_isSoInTrial 73 = .ok (.iand, 1) := by decide +kernel
theorem dX6_isSoInTrial_74 : decode cX6_isSoInTrial 74 = .ok (.ifCond .ne 7, 3) := by decide +kernel
theorem dX6_isSoInTrial_77 : decode cX6_isSoInTrial 77 = .ok (.iconst 1, 1) := by decide +kernel
theorem dX6_isSoInTrial_78 : decode cX6_isSoInTrial 78 = .ok (.goto 4, 3) := by decide +kernel
theorem dX6_isSoInTrial_81 : decode cX6_isSoInTrial 81 = .ok (.iconst 0, 1) := by decide +kernel
theorem dX6_isSoInTrial_82 : decode cX6_isSoInTrial 82 = .ok (.ireturn, 1) := by decide +kernel
theorem dX6_leave_0 : decode cX6_leave 0 = .ok (.aload_n 0, 1) := by decide +kernel
theorem dX6_leave_1 : decode cX6_leave 1 = .ok (.getfield 12, 3) := by decide +kernel
theorem dX6_leave_4 : decode cX6_leave 4 = .ok (.iload_n 1, 1) := by decide +kernel
theorem dX6_leave_5 : decode cX6_leave 5 = .ok (.invokevirtual 88, 3) := by decide +kernel
theorem dX6_leave_8 : decode cX6_leave 8 = .ok (.ifCond .eq 12, 3) := by decide +kernel
theorem dX6_leave_11 : decode cX6_leave 11 = .ok (.iload_n 2, 1) := by decide +kernel
theorem dX6_leave_12 : decode cX6_leave 12 = .ok (.bipush 60, 2) := by decide +kernel
theorem dX6_leave_14 : decode cX6_leave 14 = .ok (.invokestatic 51, 3) := by decide +kernel
theorem dX6_leave_17 : decode cX6_leave 17 = .ok (.ifCond .ne 10, 3) := by decide +kernel
theorem dX6_leave_20 : decode cX6_leave 20 = .ok (.aload_n 0, 1) := by decide +kernel
theorem dX6_leave_21 : decode cX6_leave 21 = .ok (.ldc 59, 2) := by decide +kernel
theorem dX6_leave_23 : decode cX6_leave 23 = .ok (.invokevirtual 60, 3) := by decide +kernel
theorem dX6_leave_26 : decode cX6_leave 26 = .ok (.ireturn, 1) := by decide +kernel
theorem dX6_leave_27 : decode cX6_leave 27 = .ok (.aload_n 0, 1) := by decide +kernel
theorem dX6_leave_28 : decode cX6_leave 28 = .ok (.iload_n 1, 1) := by decide +kernel
theorem dX6_leave_29 : decode cX6_leave 29 = .ok (.iconst 1, 1) := by decide +kernel
theorem dX6_leave_30 : decode cX6_leave 30 = .ok (.iconst 5, 1) := by decide +kernel
theorem dX6_leave_31 : decode cX6_leave 31 = .ok (.iload_n 2, 1) := by decide +kernel
theorem dX6_leave_32 : decode cX6_leave 32 = .ok (.invokevirtual 183, 3) := by decide +kernel
theorem dX6_leave_35 : decode cX6_leave 35 = .ok (.ireturn, 1) := by decide +kernel
theorem dX6_openFor_0 : decode cX6_openFor 0 = .ok (.aload_n 0, 1) := by decide +kernel
theorem dX6_openFor_1 : decode cX6_openFor 1 = .ok (.getfield 12, 3) := by decide +kernel
theorem dX6_openFor_4 : decode cX6_openFor 4 = .ok (.iload_n 1, 1) := by decide +kernel
theorem dX6_openFor_5 : decode cX6_openFor 5 = .ok (.invokevirtual 88, 3) := by decide +kernel
theorem dX6_openFor_8 : decode cX6_openFor 8 = .ok (.ifCond .eq 21, 3) := by decide +kernel
theorem dX6_openFor_11 : decode cX6_openFor 11 = .ok (.iload_n 2, 1) := by decide +kernel
theorem dX6_openFor_12 : decode cX6_openFor 12 = .ok (.bipush 16, 2) := by decide +kernel
theorem dX6_openFor_14 : decode cX6_openFor 14 = .ok (.invokestatic 51, 3) := by decide +kernel
theorem dX6_openFor_17 : decode cX6_openFor 17 = .ok (.ifCond .eq 12, 3) := by decide +kernel
theorem dX6_openFor_20 : decode cX6_openFor 20 = .ok (.iload_n 3, 1) := by decide +kernel
theorem dX6_openFor_21 : decode cX6_openFor 21 = .ok (.bipush 60, 2) := by decide +kernel
theorem dX6_openFor_23 : decode cX6_openFor 23 = .ok (.invokestatic 51, 3) := by decide +kernel
theorem dX6_openFor_26 : decode cX6_openFor 26 = .ok (.ifCond .ne 10, 3) := by decide +kernel
theorem dX6_openFor_29 : decode cX6_openFor 29 = .ok (.aload_n 0, 1) := by decide +kernel
theorem dX6_openFor_30 : decode cX6_openFor 30 = .ok (.ldc 59, 2) := by decide +kernel
theorem dX6_openFor_32 : decode cX6_openFor 32 = .ok (.invokevirtual 60, 3) := by decide +kernel
theorem dX6_openFor_35 : decode cX6_openFor 35 = .ok (.ireturn, 1) := by decide +kernel
theorem dX6_openFor_36 : decode cX6_openFor 36 = .ok (.iconst 0, 1) := by decide +kernel
theorem dX6_openFor_37 : decode cX6_openFor 37 = .ok (.istore 4, 2) := by decide +kernel
theorem dX6_openFor_39 : decode cX6_openFor 39 = .ok (.iload 4, 2) := by decide +kernel
theorem dX6_openFor_41 : decode cX6_openFor 41 = .ok (.bipush 9, 2) := by decide +kernel
theorem dX6_openFor_43 : decode cX6_openFor 43 = .ok (.if_icmp .gt 41, 3) := by decide +kernel
theorem dX6_openFor_46 : decode cX6_openFor 46 = .ok (.aload_n 0, 1) := by decide +kernel
theorem dX6_openFor_47 : decode cX6_openFor 47 = .ok (.iload_n 1, 1) := by decide +kernel
theorem dX6_openFor_48 : decode cX6_openFor 48 = .ok (.iconst 2, 1) := by decide +kernel
theorem dX6_openFor_49 : decode cX6_openFor 49 = .ok (.iload 4, 2) := by decide +kernel
theorem dX6_openFor_51 : decode cX6_openFor 51 = .ok (.invokevirtual 187, 3) := by decide +kernel
theorem dX6_openFor_54 : decode cX6_openFor 54 = .ok (.aload_n 0, 1) := by decide +kernel
theorem dX6_openFor_55 : decode cX6_openFor 55 = .ok (.getfield 19, 3) := by decide +kernel
theorem dX6_openFor_58 : decode cX6_openFor 58 = .ok (.iload_n 3, 1) := by decide +kernel
theorem dX6_openFor_59 : decode cX6_openFor 59 = .ok (.iconst 0, 1) := by decide +kernel
theorem dX6_openFor_60 : decode cX6_openFor 60 = .ok (.invokevirtual 129, 3) := by decide +kernel
theorem dX6_openFor_63 : decode cX6_openFor 63 = .ok (.aload_n 0, 1) := by decide +kernel
theorem dX6_openFor_64 : decode cX6_openFor 64 = .ok (.getfield 19, 3) := by decide +kernel
theorem dX6_openFor_67 : decode cX6_openFor 67 = .ok (.iload_n 1, 1) := by decide +kernel
theorem dX6_openFor_68 : decode cX6_openFor 68 = .ok (.invokevirtual 180, 3) := by decide +kernel
theorem dX6_openFor_71 : decode cX6_openFor 71 = .ok (.iload_n 2, 1) := by decide +kernel
theorem dX6_openFor_72 : decode cX6_openFor 72 = .ok (.if_icmp .lt 6, 3) := by decide +kernel
theorem dX6_openFor_75 : decode cX6_openFor 75 = .ok (.iload 4, 2) := by decide +kernel
theorem dX6_openFor_77 : decode cX6_openFor 77 = .ok (.ireturn, 1) := by decide +kernel
theorem dX6_openFor_78 : decode cX6_openFor 78 = .ok (.iinc 4 1, 3) := by decide +kernel
theorem dX6_openFor_81 : decode cX6_openFor 81 = .ok (.goto (-42), 3) := by decide +kernel
theorem dX6_openFor_84 : decode cX6_openFor 84 = .ok (.aload_n 0, 1) := by decide +kernel
theorem dX6_openFor_85 : decode cX6_openFor 85 = .ok (.ldc 173, 2) := by decide +kernel
theorem dX6_openFor_87 : decode cX6_openFor 87 = .ok (.invokevirtual 60, 3) := by decide +kernel
theorem dX6_openFor_90 : decode cX6_openFor 90 = .ok (.ireturn, 1) := by decide +kernel
theorem dX6_kindFor_0 : decode cX6_kindFor 0 = .ok (.aload_n 0, 1) := by decide +kernel
theorem dX6_kindFor_1 : decode cX6_kindFor 1 = .ok (.getfield 12, 3) := by decide +kernel
theorem dX6_kindFor_4 : decode cX6_kindFor 4 = .ok (.iload_n 1, 1) := by decide +kernel
theorem dX6_kindFor_5 : decode cX6_kindFor 5 = .ok (.invokevirtual 88, 3) := by decide +kernel
theorem dX6_kindFor_8 : decode cX6_kindFor 8 = .ok (.ifCond .eq 12, 3) := by decide +kernel
theorem dX6_kindFor_11 : decode cX6_kindFor 11 = .ok (.iload_n 2, 1) := by decide +kernel
theorem dX6_kindFor_12 : decode cX6_kindFor 12 = .ok (.bipush 60, 2) := by decide +kernel
theorem dX6_kindFor_14 : decode cX6_kindFor 14 = .ok (.invokestatic 51, 3) := by decide +kernel
theorem dX6_kindFor_17 : decode cX6_kindFor 17 = .ok (.ifCond .ne 10, 3) := by decide +kernel
theorem dX6_kindFor_20 : decode cX6_kindFor 20 = .ok (.aload_n 0, 1) := by decide +kernel
theorem dX6_kindFor_21 : decode cX6_kindFor 21 = .ok (.ldc 59, 2) := by decide +kernel
theorem dX6_kindFor_23 : decode cX6_kindFor 23 = .ok (.invokevirtual 60, 3) := by decide +kernel
theorem dX6_kindFor_26 : decode cX6_kindFor 26 = .ok (.ireturn, 1) := by decide +kernel
theorem dX6_kindFor_27 : decode cX6_kindFor 27 = .ok (.aload_n 0, 1) := by decide +kernel
theorem dX6_kindFor_28 : decode cX6_kindFor 28 = .ok (.iload_n 1, 1) := by decide +kernel
theorem dX6_kindFor_29 : decode cX6_kindFor 29 = .ok (.iconst 0, 1) := by decide +kernel
theorem dX6_kindFor_30 : decode cX6_kindFor 30 = .ok (.bipush 6, 2) := by decide +kernel
theorem dX6_kindFor_32 : decode cX6_kindFor 32 = .ok (.iload_n 2, 1) := by decide +kernel
theorem dX6_kindFor_33 : decode cX6_kindFor 33 = .ok (.invokevirtual 183, 3) := by decide +kernel
theorem dX6_kindFor_36 : decode cX6_kindFor 36 = .ok (.ireturn, 1) := by decide +kernel
theorem dX6_lower_0 : decode cX6_lower 0 = .ok (.iload_n 1, 1) := by decide +kernel
theorem dX6_lower_1 : decode cX6_lower 1 = .ok (.iconst 5, 1) := by decide +kernel
theorem dX6_lower_2 : decode cX6_lower 2 = .ok (.invokestatic 51, 3) := by decide +kernel
theorem dX6_lower_5 : decode cX6_lower 5 = .ok (.ifCond .ne 10, 3) := by decide +kernel
theorem dX6_lower_8 : decode cX6_lower 8 = .ok (.aload_n 0, 1) := by decide +kernel
theorem dX6_lower_9 : decode cX6_lower 9 = .ok (.ldc 59, 2) := by decide +kernel
theorem dX6_lower_11 : decode cX6_lower 11 = .ok (.invokevirtual 60, 3) := by decide +kernel
theorem dX6_lower_14 : decode cX6_lower 14 = .ok (.ireturn, 1) := by decide +kernel
theorem dX6_lower_15 : decode cX6_lower 15 = .ok (.aload_n 0, 1) := by decide +kernel
theorem dX6_lower_16 : decode cX6_lower 16 = .ok (.getfield 12, 3) := by decide +kernel
theorem dX6_lower_19 : decode cX6_lower 19 = .ok (.getfield 64, 3) := by decide +kernel
theorem dX6_lower_22 : decode cX6_lower 22 = .ok (.iload_n 1, 1) := by decide +kernel
theorem dX6_lower_23 : decode cX6_lower 23 = .ok (.iaload, 1) := by decide +kernel
theorem dX6_lower_24 : decode cX6_lower 24 = .ok (.aload_n 0, 1) := by decide +kernel
theorem dX6_lower_25 : decode cX6_lower 25 = .ok (.getfield 12, 3) := by decide +kernel
theorem dX6_lower_28 : decode cX6_lower 28 = .ok (.getfield 64, 3) := by decide +kernel
theorem dX6_lower_31 : decode cX6_lower 31 = .ok (.iload_n 1, 1) := by decide +kernel
theorem dX6_lower_32 : decode cX6_lower 32 = .ok (.iaload, 1) := by decide +kernel
theorem dX6_lower_33 : decode cX6_lower 33 = .ok (.invokestatic 191, 3) := by decide +kernel
theorem dX6_lower_36 : decode cX6_lower 36 = .ok (.isub, 1) := by decide +kernel
theorem dX6_lower_37 : decode cX6_lower 37 = .ok (.istore_n 2, 1) := by decide +kernel
theorem dX6_lower_38 : decode cX6_lower 38 = .ok (.bipush 9, 2) := by decide +kernel
theorem dX6_lower_40 : decode cX6_lower 40 = .ok (.istore_n 3, 1) := by decide +kernel
theorem dX6_lower_41 : decode cX6_lower 41 = .ok (.iload_n 3, 1) := by decide +kernel
theorem dX6_lower_42 : decode cX6_lower 42 = .ok (.ifCond .lt 25, 3) := by decide +kernel
theorem dX6_lower_45 : decode cX6_lower 45 = .ok (.aload_n 0, 1) := by decide +kernel
theorem dX6_lower_46 : decode cX6_lower 46 = .ok (.getfield 12, 3) := by decide +kernel
theorem dX6_lower_49 : decode cX6_lower 49 = .ok (.iload_n 2, 1) := by decide +kernel
theorem dX6_lower_50 : decode cX6_lower 50 = .ok (.iload_n 3, 1) := by decide +kernel
theorem dX6_lower_51 : decode cX6_lower 51 = .ok (.iadd, 1) := by decide +kernel
theorem dX6_lower_52 : decode cX6_lower 52 = .ok (.iconst 0, 1) := by decide +kernel
theorem dX6_lower_53 : decode cX6_lower 53 = .ok (.invokevirtual 151, 3) := by decide +kernel
theorem dX6_lower_56 : decode cX6_lower 56 = .ok (.ifCond .ne 5, 3) := by decide +kernel
theorem dX6_lower_59 : decode cX6_lower 59 = .ok (.iload_n 3, 1) := by decide +kernel
theorem dX6_lower_60 : decode cX6_lower 60 = .ok (.ireturn, 1) := by decide +kernel
theorem dX6_lower_61 : decode cX6_lower 61 = .ok (.iinc 3 (-1), 3) := by decide +kernel
theorem dX6_lower_64 : decode cX6_lower 64 = .ok (.goto (-23), 3) := by decide +kernel
theorem dX6_lower_67 : decode cX6_lower 67 = .ok (.aload_n 0, 1) := by decide +kernel
theorem dX6_lower_68 : decode cX6_lower 68 = .ok (.ldc 173, 2) := by decide +kernel
theorem dX6_lower_70 : decode cX6_lower 70 = .ok (.invokevirtual 60, 3) := by decide +kernel
theorem dX6_lower_73 : decode cX6_lower 73 = .ok (.ireturn, 1) := by decide +kernel
theorem dX6_cover_0 : decode cX6_cover 0 = .ok (.iload_n 1, 1) := by decide +kernel
theorem dX6_cover_1 : decode cX6_cover 1 = .ok (.ldc 138, 2) := by decide +kernel
theorem dX6_cover_3 : decode cX6_cover 3 = .ok (.invokestatic 51, 3) := by decide +kernel
theorem dX6_cover_6 : decode cX6_cover 6 = .ok (.ifCond .ne 10, 3) := by decide +kernel
theorem dX6_cover_9 : decode cX6_cover 9 = .ok (.aload_n 0, 1) := by decide +kernel
theorem dX6_cover_10 : decode cX6_cover 10 = .ok (.ldc 59, 2) := by decide +kernel
theorem dX6_cover_12 : decode cX6_cover 12 = .ok (.invokevirtual 60, 3) := by decide +kernel
theorem dX6_cover_15 : decode cX6_cover 15 = .ok (.ireturn, 1) := by decide +kernel
theorem dX6_cover_16 : decode cX6_cover 16 = .ok (.iconst (-1), 1) := by decide +kernel
theorem dX6_cover_17 : decode cX6_cover 17 = .ok (.istore_n 2, 1) := by decide +kernel
theorem dX6_cover_18 : decode cX6_cover 18 = .ok (.iconst 0, 1) := by decide +kernel
theorem dX6_cover_19 : decode cX6_cover 19 = .ok (.istore_n 3, 1) := by decide +kernel
theorem dX6_cover_20 : decode cX6_cover 20 = .ok (.iload_n 3, 1) := by decide +kernel
theorem dX6_cover_21 : decode cX6_cover 21 = .ok (.iconst 1, 1) := by decide +kernel
theorem dX6_cover_22 : decode cX6_cover 22 = .ok (.aload_n 0, 1) := by decide +kernel
theorem dX6_cover_23 : decode cX6_cover 23 = .ok (.getfield 12, 3) := by decide +kernel
theorem dX6_cover_26 : decode cX6_cover 26 = .ok (.getfield 80, 3) := by decide +kernel
theorem dX6_cover_29 : decode cX6_cover 29 = .ok (.ishl, 1) := by decide +kernel
theorem dX6_cover_30 : decode cX6_cover 30 = .ok (.if_icmp .ge 43, 3) := by decide +kernel
theorem dX6_cover_33 : decode cX6_cover 33 = .ok (.iload_n 3, 1) := by decide +kernel
theorem dX6_cover_34 : decode cX6_cover 34 = .ok (.iload_n 2, 1) := by decide +kernel
theorem dX6_cover_35 : decode cX6_cover 35 = .ok (.invokestatic 194, 3) := by decide +kernel
theorem dX6_cover_38 : decode cX6_cover 38 = .ok (.ifCond .eq 29, 3) := by decide +kernel
theorem dX6_cover_41 : decode cX6_cover 41 = .ok (.iload_n 1, 1) := by decide +kernel
theorem dX6_cover_42 : decode cX6_cover 42 = .ok (.aload_n 0, 1) := by decide +kernel
theorem dX6_cover_43 : decode cX6_cover 43 = .ok (.getfield 12, 3) := by decide +kernel
theorem dX6_cover_46 : decode cX6_cover 46 = .ok (.iload_n 3, 1) := by decide +kernel
theorem dX6_cover_47 : decode cX6_cover 47 = .ok (.invokevirtual 74, 3) := by decide +kernel
theorem dX6_cover_50 : decode cX6_cover 50 = .ok (.aload_n 0, 1) := by decide +kernel
theorem dX6_cover_51 : decode cX6_cover 51 = .ok (.getfield 12, 3) := by decide +kernel
theorem dX6_cover_54 : decode cX6_cover 54 = .ok (.iload_n 3, 1) := by decide +kernel
theorem dX6_cover_55 : decode cX6_cover 55 = .ok (.invokevirtual 197, 3) := by decide +kernel
theorem dX6_cover_58 : decode cX6_cover 58 = .ok (.ior, 1) := by decide +kernel
theorem dX6_cover_59 : decode cX6_cover 59 = .ok (.iconst (-1), 1) := by decide +kernel
theorem dX6_cover_60 : decode cX6_cover 60 = .ok (.ixor, 1) := by decide +kernel
theorem dX6_cover_61 : decode cX6_cover 61 = .ok (.iand, 1) := by decide +kernel
theorem dX6_cover_62 : decode cX6_cover 62 = .ok (.ifCond .ne 5, 3) := by decide +kernel
theorem dX6_cover_65 : decode cX6_cover 65 = .ok (.iload_n 3, 1) := by decide +kernel
theorem dX6_cover_66 : decode cX6_cover 66 = .ok (.istore_n 2, 1) := by decide +kernel
theorem dX6_cover_67 : decode cX6_cover 67 = .ok (.iinc 3 1, 3) := by decide +kernel
theorem dX6_cover_70 : decode cX6_cover 70 = .ok (.goto (-50), 3) := by decide +kernel
theorem dX6_cover_73 : decode cX6_cover 73 = .ok (.iload_n 2, 1) := by decide +kernel
theorem dX6_cover_74 : decode cX6_cover 74 = .ok (.iconst (-1), 1) := by decide +kernel
theorem dX6_cover_75 : decode cX6_cover 75 = .ok (.if_icmp .ne 12, 3) := by decide +kernel
theorem dX6_cover_78 : decode cX6_cover 78 = .ok (.aload_n 0, 1) := by decide +kernel
theorem dX6_cover_79 : decode cX6_cover 79 = .ok (.ldc 173, 2) := by decide +kernel
theorem dX6_cover_81 : decode cX6_cover 81 = .ok (.invokevirtual 60, 3) := by decide +kernel
theorem dX6_cover_84 : decode cX6_cover 84 = .ok (.goto 4, 3) := by decide +kernel
theorem dX6_cover_87 : decode cX6_cover 87 = .ok (.iload_n 2, 1) := by decide +kernel
theorem dX6_cover_88 : decode cX6_cover 88 = .ok (.ireturn, 1) := by decide +kernel
theorem dX6_away_0 : decode cX6_away 0 = .ok (.aload_n 0, 1) := by decide +kernel
theorem dX6_away_1 : decode cX6_away 1 = .ok (.getfield 12, 3) := by decide +kernel
theorem dX6_away_4 : decode cX6_away 4 = .ok (.iload_n 1, 1) := by decide +kernel
theorem dX6_away_5 : decode cX6_away 5 = .ok (.invokevirtual 88, 3) := by decide +kernel
theorem dX6_away_8 : decode cX6_away 8 = .ok (.ifCond .eq 21, 3) := by decide +kernel
theorem dX6_away_11 : decode cX6_away 11 = .ok (.iload_n 2, 1) := by decide +kernel
theorem dX6_away_12 : decode cX6_away 12 = .ok (.bipush 15, 2) := by decide +kernel
theorem dX6_away_14 : decode cX6_away 14 = .ok (.invokestatic 51, 3) := by decide +kernel
theorem dX6_away_17 : decode cX6_away 17 = .ok (.ifCond .eq 12, 3) := by decide +kernel
theorem dX6_away_20 : decode cX6_away 20 = .ok (.iload_n 3, 1) := by decide +kernel
theorem dX6_away_21 : decode cX6_away 21 = .ok (.bipush 20, 2) := by decide +kernel
theorem dX6_away_23 : decode cX6_away 23 = .ok (.invokestatic 51, 3) := by decide +kernel
theorem dX6_away_26 : decode cX6_away 26 = .ok (.ifCond .ne 10, 3) := by decide +kernel
theorem dX6_away_29 : decode cX6_away 29 = .ok (.aload_n 0, 1) := by decide +kernel
theorem dX6_away_30 : decode cX6_away 30 = .ok (.ldc 59, 2) := by decide +kernel
theorem dX6_away_32 : decode cX6_away 32 = .ok (.invokevirtual 60, 3) := by decide +kernel
theorem dX6_away_35 : decode cX6_away 35 = .ok (.ireturn, 1) := by decide +kernel
theorem dX6_away_36 : decode cX6_away 36 = .ok (.iconst (-1), 1) := by decide +kernel
theorem dX6_away_37 : decode cX6_away 37 = .ok (.istore 4, 2) := by decide +kernel
theorem dX6_away_39 : decode cX6_away 39 = .ok (.iconst 0, 1) := by decide +kernel
theorem dX6_away_40 : decode cX6_away 40 = .ok (.istore 5, 2) := by decide +kernel
theorem dX6_away_42 : decode cX6_away 42 = .ok (.iload 5, 2) := by decide +kernel
theorem dX6_away_44 : decode cX6_away 44 = .ok (.iconst 1, 1) := by decide +kernel
theorem dX6_away_45 : decode cX6_away 45 = .ok (.aload_n 0, 1) := by decide +kernel
theorem dX6_away_46 : decode cX6_away 46 = .ok (.getfield 12, 3) := by decide +kernel
theorem dX6_away_49 : decode cX6_away 49 = .ok (.getfield 80, 3) := by decide +kernel
theorem dX6_away_52 : decode cX6_away 52 = .ok (.ishl, 1) := by decide +kernel
theorem dX6_away_53 : decode cX6_away 53 = .ok (.if_icmp .ge 44, 3) := by decide +kernel
theorem dX6_away_56 : decode cX6_away 56 = .ok (.iload 5, 2) := by decide +kernel
theorem dX6_away_58 : decode cX6_away 58 = .ok (.iload 4, 2) := by decide +kernel
theorem dX6_away_60 : decode cX6_away 60 = .ok (.invokestatic 194, 3) := by decide +kernel
theorem dX6_away_63 : decode cX6_away 63 = .ok (.ifCond .eq 28, 3) := by decide +kernel
theorem dX6_away_66 : decode cX6_away 66 = .ok (.iload_n 1, 1) := by decide +kernel
theorem dX6_away_67 : decode cX6_away 67 = .ok (.iload 5, 2) := by decide +kernel
theorem dX6_away_69 : decode cX6_away 69 = .ok (.invokestatic 177, 3) := by decide +kernel
theorem dX6_away_72 : decode cX6_away 72 = .ok (.ifCond .ne 19, 3) := by decide +kernel
theorem dX6_away_75 : decode cX6_away 75 = .ok (.aload_n 0, 1) := by decide +kernel
theorem dX6_away_76 : decode cX6_away 76 = .ok (.iload 5, 2) := by decide +kernel
theorem dX6_away_78 : decode cX6_away 78 = .ok (.iload_n 1, 1) := by decide +kernel
theorem dX6_away_79 : decode cX6_away 79 = .ok (.iload_n 2, 1) := by decide +kernel
theorem dX6_away_80 : decode cX6_away 80 = .ok (.iload_n 3, 1) := by decide +kernel
theorem dX6_away_81 : decode cX6_away 81 = .ok (.invokevirtual 200, 3) := by decide +kernel
theorem dX6_away_84 : decode cX6_away 84 = .ok (.ifCond .eq 7, 3) := by decide +kernel
theorem dX6_away_87 : decode cX6_away 87 = .ok (.iload 5, 2) := by decide +kernel
theorem dX6_away_89 : decode cX6_away 89 = .ok (.istore 4, 2) := by decide +kernel
theorem dX6_away_91 : decode cX6_away 91 = .ok (.iinc 5 1, 3) := by decide +kernel
theorem dX6_away_94 : decode cX6_away 94 = .ok (.goto (-52), 3) := by decide +kernel
theorem dX6_away_97 : decode cX6_away 97 = .ok (.iload 4, 2) := by decide +kernel
theorem dX6_away_99 : decode cX6_away 99 = .ok (.iconst (-1), 1) := by decide +kernel
theorem dX6_away_100 : decode cX6_away 100 = .ok (.if_icmp .ne 12, 3) := by decide +kernel
theorem dX6_away_103 : decode cX6_away 103 = .ok (.aload_n 0, 1) := by decide +kernel
theorem dX6_away_104 : decode cX6_away 104 = .ok (.ldc 173, 2) := by decide +kernel
theorem dX6_away_106 : decode cX6_away 106 = .ok (.invokevirtual 60, 3) := by decide +kernel
theorem dX6_away_109 : decode cX6_away 109 = .ok (.goto 5, 3) := by decide +kernel
theorem dX6_away_112 : decode cX6_away 112 = .ok (.iload 4, 2) := by decide +kernel
theorem dX6_away_114 : decode cX6_away 114 = .ok (.ireturn, 1) := by decide +kernel
theorem dX6_isFewer_0 : decode cX6_isFewer 0 = .ok (.iload_n 1, 1) := by decide +kernel
theorem dX6_isFewer_1 : decode cX6_isFewer 1 = .ok (.iconst (-1), 1) := by decide +kernel
theorem dX6_isFewer_2 : decode cX6_isFewer 2 = .ok (.if_icmp .eq 14, 3) := by decide +kernel
theorem dX6_isFewer_5 : decode cX6_isFewer 5 = .ok (.iload_n 0, 1) := by decide +kernel
theorem dX6_isFewer_6 : decode cX6_isFewer 6 = .ok (.invokestatic 204, 3) := by decide +kernel
theorem dX6_isFewer_9 : decode cX6_isFewer 9 = .ok (.iload_n 1, 1) := by decide +kernel
theorem dX6_isFewer_10 : decode cX6_isFewer 10 = .ok (.invokestatic 204, 3) := by decide +kernel
theorem dX6_isFewer_13 : decode cX6_isFewer 13 = .ok (.if_icmp .ge 7, 3) := by decide +kernel
theorem dX6_isFewer_16 : decode cX6_isFewer 16 = .ok (.iconst 1, 1) := by decide +kernel
theorem dX6_isFewer_17 : decode cX6_isFewer 17 = .ok (.goto 4, 3) := by decide +kernel
theorem dX6_isFewer_20 : decode cX6_isFewer 20 = .ok (.iconst 0, 1) := by decide +kernel
theorem dX6_isFewer_21 : decode cX6_isFewer 21 = .ok (.ireturn, 1) := by decide +kernel
theorem dX6_bestFor_0 : decode cX6_bestFor 0 = .ok (.iconst 0, 1) := by decide +kernel
theorem dX6_bestFor_1 : decode cX6_bestFor 1 = .ok (.istore 5, 2) := by decide +kernel
theorem dX6_bestFor_3 : decode cX6_bestFor 3 = .ok (.iconst (-1), 1) := by decide +kernel
theorem dX6_bestFor_4 : decode cX6_bestFor 4 = .ok (.istore 6, 2) := by decide +kernel
theorem dX6_bestFor_6 : decode cX6_bestFor 6 = .ok (.iconst 0, 1) := by decide +kernel
theorem dX6_bestFor_7 : decode cX6_bestFor 7 = .ok (.istore 7, 2) := by decide +kernel
theorem dX6_bestFor_9 : decode cX6_bestFor 9 = .ok (.iload 7, 2) := by decide +kernel
theorem dX6_bestFor_11 : decode cX6_bestFor 11 = .ok (.iload_n 3, 1) := by decide +kernel
theorem dX6_bestFor_12 : decode cX6_bestFor 12 = .ok (.if_icmp .gt 52, 3) := by decide +kernel
theorem dX6_bestFor_15 : decode cX6_bestFor 15 = .ok (.aload_n 0, 1) := by decide +kernel
theorem dX6_bestFor_16 : decode cX6_bestFor 16 = .ok (.iload_n 1, 1) := by decide +kernel
theorem dX6_bestFor_17 : decode cX6_bestFor 17 = .ok (.iload_n 2, 1) := by decide +kernel
theorem dX6_bestFor_18 : decode cX6_bestFor 18 = .ok (.iload 7, 2) := by decide +kernel
theorem dX6_bestFor_20 : decode cX6_bestFor 20 = .ok (.invokevirtual 187, 3) := by decide +kernel
theorem dX6_bestFor_23 : decode cX6_bestFor 23 = .ok (.aload_n 0, 1) := by decide +kernel
theorem dX6_bestFor_24 : decode cX6_bestFor 24 = .ok (.getfield 19, 3) := by decide +kernel
theorem dX6_bestFor_27 : decode cX6_bestFor 27 = .ok (.iload 4, 2) := by decide +kernel
theorem dX6_bestFor_29 : decode cX6_bestFor 29 = .ok (.iconst 0, 1) := by decide +kernel
theorem dX6_bestFor_30 : decode cX6_bestFor 30 = .ok (.invokevirtual 129, 3) := by decide +kernel
theorem dX6_bestFor_33 : decode cX6_bestFor 33 = .ok (.aload_n 0, 1) := by decide +kernel
theorem dX6_bestFor_34 : decode cX6_bestFor 34 = .ok (.getfield 19, 3) := by decide +kernel
theorem dX6_bestFor_37 : decode cX6_bestFor 37 = .ok (.iload_n 1, 1) := by decide +kernel
theorem dX6_bestFor_38 : decode cX6_bestFor 38 = .ok (.invokevirtual 180, 3) := by decide +kernel
theorem dX6_bestFor_41 : decode cX6_bestFor 41 = .ok (.istore 8, 2) := by decide +kernel
theorem dX6_bestFor_43 : decode cX6_bestFor 43 = .ok (.iload 8, 2) := by decide +kernel
theorem dX6_bestFor_45 : decode cX6_bestFor 45 = .ok (.iload 6, 2) := by decide +kernel
theorem dX6_bestFor_47 : decode cX6_bestFor 47 = .ok (.if_icmp .le 11, 3) := by decide +kernel
theorem dX6_bestFor_50 : decode cX6_bestFor 50 = .ok (.iload 7, 2) := by decide +kernel
theorem dX6_bestFor_52 : decode cX6_bestFor 52 = .ok (.istore 5, 2) := by decide +kernel
theorem dX6_bestFor_54 : decode cX6_bestFor 54 = .ok (.iload 8, 2) := by decide +kernel
theorem dX6_bestFor_56 : decode cX6_bestFor 56 = .ok (.istore 6, 2) := by decide +kernel
theorem dX6_bestFor_58 : decode cX6_bestFor 58 = .ok (.iinc 7 1, 3) := by decide +kernel
theorem dX6_bestFor_61 : decode cX6_bestFor 61 = .ok (.goto (-52), 3) := by decide +kernel
theorem dX6_bestFor_64 : decode cX6_bestFor 64 = .ok (.iload 5, 2) := by decide +kernel
theorem dX6_bestFor_66 : decode cX6_bestFor 66 = .ok (.ireturn, 1) := by decide +kernel
theorem dX6_tryOut_0 : decode cX6_tryOut 0 = .ok (.aload_n 0, 1) := by decide +kernel
theorem dX6_tryOut_1 : decode cX6_tryOut 1 = .ok (.getfield 19, 3) := by decide +kernel
theorem dX6_tryOut_4 : decode cX6_tryOut 4 = .ok (.aload_n 0, 1) := by decide +kernel
theorem dX6_tryOut_5 : decode cX6_tryOut 5 = .ok (.getfield 12, 3) := by decide +kernel
theorem dX6_tryOut_8 : decode cX6_tryOut 8 = .ok (.invokevirtual 157, 3) := by decide +kernel
theorem dX6_tryOut_11 : decode cX6_tryOut 11 = .ok (.aload_n 0, 1) := by decide +kernel
theorem dX6_tryOut_12 : decode cX6_tryOut 12 = .ok (.getfield 19, 3) := by decide +kernel
theorem dX6_tryOut_15 : decode cX6_tryOut 15 = .ok (.getfield 96, 3) := by decide +kernel
theorem dX6_tryOut_18 : decode cX6_tryOut 18 = .ok (.iload_n 1, 1) := by decide +kernel
theorem dX6_tryOut_19 : decode cX6_tryOut 19 = .ok (.aaload, 1) := by decide +kernel
theorem dX6_tryOut_20 : decode cX6_tryOut 20 = .ok (.iload_n 2, 1) := by decide +kernel
theorem dX6_tryOut_21 : decode cX6_tryOut 21 = .ok (.iload_n 3, 1) := by decide +kernel
theorem dX6_tryOut_22 : decode cX6_tryOut 22 = .ok (.invokevirtual 106, 3) := by decide +kernel
theorem dX6_tryOut_25 : decode cX6_tryOut 25 = .ok (.return_, 1) := by decide +kernel
theorem dX6_comesToKnowWithout_0 : decode cX6_comesToKnowWithout 0 = .ok (.aload_n 0, 1) := by decide +kernel
theorem dX6_comesToKnowWithout_1 : decode cX6_comesToKnowWithout 1 = .ok (.getfield 19, 3) := by decide +kernel
theorem dX6_comesToKnowWithout_4 : decode cX6_comesToKnowWithout 4 = .ok (.aload_n 0, 1) := by decide +kernel
theorem dX6_comesToKnowWithout_5 : decode cX6_comesToKnowWithout 5 = .ok (.getfield 12, 3) := by decide +kernel
theorem dX6_comesToKnowWithout_8 : decode cX6_comesToKnowWithout 8 = .ok (.invokevirtual 157, 3) := by decide +kernel
theorem dX6_comesToKnowWithout_11 : decode cX6_comesToKnowWithout 11 = .ok (.aload_n 0, 1) := by decide +kernel
theorem dX6_comesToKnowWithout_12 : decode cX6_comesToKnowWithout 12 = .ok (.getfield 19, 3) := by decide +kernel
theorem dX6_comesToKnowWithout_15 : decode cX6_comesToKnowWithout 15 = .ok (.iload 4, 2) := by decide +kernel
theorem dX6_comesToKnowWithout_17 : decode cX6_comesToKnowWithout 17 = .ok (.iload_n 1, 1) := by decide +kernel
theorem dX6_comesToKnowWithout_18 : decode cX6_comesToKnowWithout 18 = .ok (.invokevirtual 129, 3) := by decide +kernel
theorem dX6_comesToKnowWithout_21 : decode cX6_comesToKnowWithout 21 = .ok (.aload_n 0, 1) := by decide +kernel
theorem dX6_comesToKnowWithout_22 : decode cX6_comesToKnowWithout 22 = .ok (.getfield 19, 3) := by decide +kernel
theorem dX6_comesToKnowWithout_25 : decode cX6_comesToKnowWithout 25 = .ok (.getfield 96, 3) := by decide +kernel
theorem dX6_comesToKnowWithout_28 : decode cX6_comesToKnowWithout 28 = .ok (.iload_n 2, 1) := by decide +kernel
theorem dX6_comesToKnowWithout_29 : decode cX6_comesToKnowWithout 29 = .ok (.aaload, 1) := by decide +kernel
theorem dX6_comesToKnowWithout_30 : decode cX6_comesToKnowWithout 30 = .ok (.astore 5, 2) := by decide +kernel
theorem dX6_comesToKnowWithout_32 : decode cX6_comesToKnowWithout 32 = .ok (.iload_n 3, 1) := by decide +kernel
theorem dX6_comesToKnowWithout_33 : decode cX6_comesToKnowWithout 33 = .ok (.aload 5, 2) := by decide +kernel
theorem dX6_comesToKnowWithout_35 : decode cX6_comesToKnowWithout 35 = .ok (.getfield 174, 3) := by decide +kernel
theorem dX6_comesToKnowWithout_38 : decode cX6_comesToKnowWithout 38 = .ok (.aload 5, 2) := by decide +kernel
theorem dX6_comesToKnowWithout_40 : decode cX6_comesToKnowWithout 40 = .ok (.getfield 118, 3) := by decide +kernel
theorem dX6_comesToKnowWithout_43 : decode cX6_comesToKnowWithout 43 = .ok (.ior, 1) := by decide +kernel
theorem dX6_comesToKnowWithout_44 : decode cX6_comesToKnowWithout 44 = .ok (.invokestatic 177, 3) := by decide +kernel
theorem dX6_comesToKnowWithout_47 : decode cX6_comesToKnowWithout 47 = .ok (.ireturn, 1) := by decide +kernel
theorem dX6_fits_0 : decode cX6_fits 0 = .ok (.aload_n 0, 1) := by decide +kernel
theorem dX6_fits_1 : decode cX6_fits 1 = .ok (.iload_n 1, 1) := by decide +kernel
theorem dX6_fits_2 : decode cX6_fits 2 = .ok (.iload_n 2, 1) := by decide +kernel
theorem dX6_fits_3 : decode cX6_fits 3 = .ok (.iconst 1, 1) := by decide +kernel
theorem dX6_fits_4 : decode cX6_fits 4 = .ok (.iconst 5, 1) := by decide +kernel
theorem dX6_fits_5 : decode cX6_fits 5 = .ok (.invokevirtual 209, 3) := by decide +kernel
theorem dX6_fits_8 : decode cX6_fits 8 = .ok (.ireturn, 1) := by decide +kernel
theorem dX6_kinds_0 : decode cX6_kinds 0 = .ok (.aload_n 0, 1) := by decide +kernel
theorem dX6_kinds_1 : decode cX6_kinds 1 = .ok (.iload_n 1, 1) := by decide +kernel
theorem dX6_kinds_2 : decode cX6_kinds 2 = .ok (.iload_n 2, 1) := by decide +kernel
theorem dX6_kinds_3 : decode cX6_kinds 3 = .ok (.iconst 0, 1) := by decide +kernel
theorem dX6_kinds_4 : decode cX6_kinds 4 = .ok (.bipush 6, 2) := by decide +kernel
theorem dX6_kinds_6 : decode cX6_kinds 6 = .ok (.invokevirtual 209, 3) := by decide +kernel
theorem dX6_kinds_9 : decode cX6_kinds 9 = .ok (.ireturn, 1) := by decide +kernel
theorem dX6_choicesAsTold_0 : decode cX6_choicesAsTold 0 = .ok (.aload_n 0, 1) := by decide +kernel
theorem dX6_choicesAsTold_1 : decode cX6_choicesAsTold 1 = .ok (.iload_n 1, 1) := by decide +kernel
theorem dX6_choicesAsTold_2 : decode cX6_choicesAsTold 2 = .ok (.invokevirtual 212, 3) := by decide +kernel
theorem dX6_choicesAsTold_5 : decode cX6_choicesAsTold 5 = .ok (.istore 5, 2) := by decide +kernel
theorem dX6_choicesAsTold_7 : decode cX6_choicesAsTold 7 = .ok (.iload 5, 2) := by decide +kernel
theorem dX6_choicesAsTold_9 : decode cX6_choicesAsTold 9 = .ok (.ifCond .eq 10, 3) := by decide +kernel
theorem dX6_choicesAsTold_12 : decode cX6_choicesAsTold 12 = .ok (.aload_n 0, 1) := by decide +kernel
theorem dX6_choicesAsTold_13 : decode cX6_choicesAsTold 13 = .ok (.iload 5, 2) := by decide +kernel
theorem dX6_choicesAsTold_15 : decode cX6_choicesAsTold 15 = .ok (.invokevirtual 60, 3) := by decide +kernel
theorem dX6_choicesAsTold_18 : decode cX6_choicesAsTold 18 = .ok (.ireturn, 1) := by decide +kernel
theorem dX6_choicesAsTold_19 : decode cX6_choicesAsTold 19 = .ok (.aload_n 0, 1) := by decide +kernel
theorem dX6_choicesAsTold_20 : decode cX6_choicesAsTold 20 = .ok (.getfield 12, 3) := by decide +kernel
theorem dX6_choicesAsTold_23 : decode cX6_choicesAsTold 23 = .ok (.iload_n 2, 1) := by decide +kernel
theorem dX6_choicesAsTold_24 : decode cX6_choicesAsTold 24 = .ok (.invokevirtual 88, 3) := by decide +kernel
theorem dX6_choicesAsTold_27 : decode cX6_choicesAsTold 27 = .ok (.ifCond .ne 10, 3) := by decide +kernel
theorem dX6_choicesAsTold_30 : decode cX6_choicesAsTold 30 = .ok (.aload_n 0, 1) := by decide +kernel
theorem dX6_choicesAsTold_31 : decode cX6_choicesAsTold 31 = .ok (.ldc 59, 2) := by decide +kernel
theorem dX6_choicesAsTold_33 : decode cX6_choicesAsTold 33 = .ok (.invokevirtual 60, 3) := by decide +kernel
theorem dX6_choicesAsTold_36 : decode cX6_choicesAsTold 36 = .ok (.ireturn, 1) := by decide +kernel
theorem dX6_choicesAsTold_37 : decode cX6_choicesAsTold 37 = .ok (.iconst 0, 1) := by decide +kernel
theorem dX6_choicesAsTold_38 : decode cX6_choicesAsTold 38 = .ok (.istore 6, 2) := by decide +kernel
theorem dX6_choicesAsTold_40 : decode cX6_choicesAsTold 40 = .ok (.iconst 0, 1) := by decide +kernel
theorem dX6_choicesAsTold_41 : decode cX6_choicesAsTold 41 = .ok (.istore 7, 2) := by decide +kernel
theorem dX6_choicesAsTold_43 : decode cX6_choicesAsTold 43 = .ok (.iload 7, 2) := by decide +kernel
theorem dX6_choicesAsTold_45 : decode cX6_choicesAsTold 45 = .ok (.iload 4, 2) := by decide +kernel
theorem dX6_choicesAsTold_47 : decode cX6_choicesAsTold 47 = .ok (.if_icmp .gt 40, 3) := by decide +kernel
theorem dX6_choicesAsTold_50 : decode cX6_choicesAsTold 50 = .ok (.aload_n 0, 1) := by decide +kernel
theorem dX6_choicesAsTold_51 : decode cX6_choicesAsTold 51 = .ok (.iload_n 2, 1) := by decide +kernel
theorem dX6_choicesAsTold_52 : decode cX6_choicesAsTold 52 = .ok (.iload_n 3, 1) := by decide +kernel
theorem dX6_choicesAsTold_53 : decode cX6_choicesAsTold 53 = .ok (.iload 7, 2) := by decide +kernel
theorem dX6_choicesAsTold_55 : decode cX6_choicesAsTold 55 = .ok (.invokevirtual 187, 3) := by decide +kernel
theorem dX6_choicesAsTold_58 : decode cX6_choicesAsTold 58 = .ok (.aload_n 0, 1) := by decide +kernel
theorem dX6_choicesAsTold_59 : decode cX6_choicesAsTold 59 = .ok (.aload_n 0, 1) := by decide +kernel
theorem dX6_choicesAsTold_60 : decode cX6_choicesAsTold 60 = .ok (.getfield 42, 3) := by decide +kernel
theorem dX6_choicesAsTold_63 : decode cX6_choicesAsTold 63 = .ok (.iload_n 1, 1) := by decide +kernel
theorem dX6_choicesAsTold_64 : decode cX6_choicesAsTold 64 = .ok (.aaload, 1) := by decide +kernel
theorem dX6_choicesAsTold_65 : decode cX6_choicesAsTold 65 = .ok (.iload_n 2, 1) := by decide +kernel
theorem dX6_choicesAsTold_66 : decode cX6_choicesAsTold 66 = .ok (.invokevirtual 215, 3) := by decide +kernel
theorem dX6_choicesAsTold_69 : decode cX6_choicesAsTold 69 = .ok (.ifCond .eq 12, 3) := by decide +kernel
theorem dX6_choicesAsTold_72 : decode cX6_choicesAsTold 72 = .ok (.iload 6, 2) := by decide +kernel
theorem dX6_choicesAsTold_74 : decode cX6_choicesAsTold 74 = .ok (.iconst 1, 1) := by decide +kernel
theorem dX6_choicesAsTold_75 : decode cX6_choicesAsTold 75 = .ok (.iload 7, 2) := by decide +kernel
theorem dX6_choicesAsTold_77 : decode cX6_choicesAsTold 77 = .ok (.ishl, 1) := by decide +kernel
theorem dX6_choicesAsTold_78 : decode cX6_choicesAsTold 78 = .ok (.ior, 1) := by decide +kernel
theorem dX6_choicesAsTold_79 : decode cX6_choicesAsTold 79 = .ok (.istore 6, 2) := by decide +kernel
theorem dX6_choicesAsTold_81 : decode cX6_choicesAsTold 81 = .ok (.iinc 7 1, 3) := by decide +kernel
theorem dX6_choicesAsTold_84 : decode cX6_choicesAsTold 84 = .ok (.goto (-41), 3) := by decide +kernel
theorem dX6_choicesAsTold_87 : decode cX6_choicesAsTold 87 = .ok (.iload 6, 2) := by decide +kernel
theorem dX6_choicesAsTold_89 : decode cX6_choicesAsTold 89 = .ok (.ireturn, 1) := by decide +kernel
theorem dX6_trialGoesAsTold_0 : decode cX6_trialGoesAsTold 0 = .ok (.iconst 0, 1) := by decide +kernel
theorem dX6_trialGoesAsTold_1 : decode cX6_trialGoesAsTold 1 = .ok (.istore_n 3, 1) := by decide +kernel
theorem dX6_trialGoesAsTold_2 : decode cX6_trialGoesAsTold 2 = .ok (.iload_n 3, 1) := by decide +kernel
theorem dX6_trialGoesAsTold_3 : decode cX6_trialGoesAsTold 3 = .ok (.aload_n 1, 1) := by decide +kernel
theorem dX6_trialGoesAsTold_4 : decode cX6_trialGoesAsTold 4 = .ok (.getfield 219, 3) := by decide +kernel
theorem dX6_trialGoesAsTold_7 : decode cX6_trialGoesAsTold 7 = .ok (.if_icmp .ge 50, 3) := by decide +kernel
theorem dX6_trialGoesAsTold_10 : decode cX6_trialGoesAsTold 10 = .ok (.aload_n 1, 1) := by decide +kernel
theorem dX6_trialGoesAsTold_11 : decode cX6_trialGoesAsTold 11 = .ok (.getfield 220, 3) := by decide +kernel
theorem dX6_trialGoesAsTold_14 : decode cX6_trialGoesAsTold 14 = .ok (.iload_n 3, 1) := by decide +kernel
theorem dX6_trialGoesAsTold_15 : decode cX6_trialGoesAsTold 15 = .ok (.iaload, 1) := by decide +kernel
theorem dX6_trialGoesAsTold_16 : decode cX6_trialGoesAsTold 16 = .ok (.istore 4, 2) := by decide +kernel
theorem dX6_trialGoesAsTold_18 : decode cX6_trialGoesAsTold 18 = .ok (.iload 4, 2) := by decide +kernel
theorem dX6_trialGoesAsTold_20 : decode cX6_trialGoesAsTold 20 = .ok (.iconst (-1), 1) := by decide +kernel
theorem dX6_trialGoesAsTold_21 : decode cX6_trialGoesAsTold 21 = .ok (.if_icmp .eq 22, 3) := by decide +kernel
theorem dX6_trialGoesAsTold_24 : decode cX6_trialGoesAsTold 24 = .ok (.iload 4, 2) := by decide +kernel
theorem dX6_trialGoesAsTold_26 : decode cX6_trialGoesAsTold 26 = .ok (.aload_n 0, 1) := by decide +kernel
theorem dX6_trialGoesAsTold_27 : decode cX6_trialGoesAsTold 27 = .ok (.getfield 19, 3) := by decide +kernel
theorem dX6_trialGoesAsTold_30 : decode cX6_trialGoesAsTold 30 = .ok (.getfield 96, 3) := by decide +kernel
theorem dX6_trialGoesAsTold_33 : decode cX6_trialGoesAsTold 33 = .ok (.iload_n 2, 1) := by decide +kernel
theorem dX6_trialGoesAsTold_34 : decode cX6_trialGoesAsTold 34 = .ok (.aaload, 1) := by decide +kernel
theorem dX6_trialGoesAsTold_35 : decode cX6_trialGoesAsTold 35 = .ok (.getfield 174, 3) := by decide +kernel
theorem dX6_trialGoesAsTold_38 : decode cX6_trialGoesAsTold 38 = .ok (.if_icmp .eq 5, 3) := by decide +kernel
theorem dX6_trialGoesAsTold_41 : decode cX6_trialGoesAsTold 41 = .ok (.iconst 0, 1) := by decide +kernel
theorem dX6_trialGoesAsTold_42 : decode cX6_trialGoesAsTold 42 = .ok (.ireturn, 1) := by decide +kernel
theorem dX6_trialGoesAsTold_43 : decode cX6_trialGoesAsTold 43 = .ok (.aload_n 0, 1) := by decide +kernel
theorem dX6_trialGoesAsTold_44 : decode cX6_trialGoesAsTold 44 = .ok (.getfield 19, 3) := by decide +kernel
theorem dX6_trialGoesAsTold_47 : decode cX6_trialGoesAsTold 47 = .ok (.iconst 0, 1) := by decide +kernel
theorem dX6_trialGoesAsTold_48 : decode cX6_trialGoesAsTold 48 = .ok (.invokevirtual 169, 3) := by decide +kernel
theorem dX6_trialGoesAsTold_51 : decode cX6_trialGoesAsTold 51 = .ok (.iinc 3 1, 3) := by decide +kernel
theorem dX6_trialGoesAsTold_54 : decode cX6_trialGoesAsTold 54 = .ok (.goto (-52), 3) := by decide +kernel
theorem dX6_trialGoesAsTold_57 : decode cX6_trialGoesAsTold 57 = .ok (.iconst 1, 1) := by decide +kernel
theorem dX6_trialGoesAsTold_58 : decode cX6_trialGoesAsTold 58 = .ok (.ireturn, 1) := by decide +kernel
theorem dX6_talk_0 : decode cX6_talk 0 = .ok (.iload_n 1, 1) := by decide +kernel
theorem dX6_talk_1 : decode cX6_talk 1 = .ok (.iconst 1, 1) := by decide +kernel
theorem dX6_talk_2 : decode cX6_talk 2 = .ok (.if_icmp .lt 9, 3) := by decide +kernel
theorem dX6_talk_5 : decode cX6_talk 5 = .ok (.iload_n 1, 1) := by decide +kernel
theorem dX6_talk_6 : decode cX6_talk 6 = .ok (.bipush 20, 2) := by decide +kernel
theorem dX6_talk_8 : decode cX6_talk 8 = .ok (.if_icmp .le 10, 3) := by decide +kernel
theorem dX6_talk_11 : decode cX6_talk 11 = .ok (.aload_n 0, 1) := by decide +kernel
theorem dX6_talk_12 : decode cX6_talk 12 = .ok (.ldc 59, 2) := by decide +kernel
theorem dX6_talk_14 : decode cX6_talk 14 = .ok (.invokevirtual 60, 3) := by decide +kernel
theorem dX6_talk_17 : decode cX6_talk 17 = .ok (.ireturn, 1) := by decide +kernel
theorem dX6_talk_18 : decode cX6_talk 18 = .ok (.aload_n 0, 1) := by decide +kernel
theorem dX6_talk_19 : decode cX6_talk 19 = .ok (.getfield 12, 3) := by decide +kernel
theorem dX6_talk_22 : decode cX6_talk 22 = .ok (.getfield 125, 3) := by decide +kernel
theorem dX6_talk_25 : decode cX6_talk 25 = .ok (.iload_n 1, 1) := by decide +kernel
theorem dX6_talk_26 : decode cX6_talk 26 = .ok (.iadd, 1) := by decide +kernel
theorem dX6_talk_27 : decode cX6_talk 27 = .ok (.ldc 128, 2) := by decide +kernel
theorem dX6_talk_29 : decode cX6_talk 29 = .ok (.if_icmp .le 10, 3) := by decide +kernel
theorem dX6_talk_32 : decode cX6_talk 32 = .ok (.aload_n 0, 1) := by decide +kernel
theorem dX6_talk_33 : decode cX6_talk 33 = .ok (.ldc 114, 2) := by decide +kernel
theorem dX6_talk_35 : decode cX6_talk 35 = .ok (.invokevirtual 60, 3) := by decide +kernel
theorem dX6_talk_38 : decode cX6_talk 38 = .ok (.ireturn, 1) := by decide +kernel
theorem dX6_talk_39 : decode cX6_talk 39 = .ok (.iconst 0, 1) := by decide +kernel
theorem dX6_talk_40 : decode cX6_talk 40 = .ok (.istore_n 2, 1) := by decide +kernel
theorem dX6_talk_41 : decode cX6_talk 41 = .ok (.iload_n 2, 1) := by decide +kernel
theorem dX6_talk_42 : decode cX6_talk 42 = .ok (.iload_n 1, 1) := by decide +kernel
theorem dX6_talk_43 : decode cX6_talk 43 = .ok (.if_icmp .ge 24, 3) := by decide +kernel
theorem dX6_talk_46 : decode cX6_talk 46 = .ok (.aload_n 0, 1) := by decide +kernel
theorem dX6_talk_47 : decode cX6_talk 47 = .ok (.getfield 12, 3) := by decide +kernel
theorem dX6_talk_50 : decode cX6_talk 50 = .ok (.invokevirtual 223, 3) := by decide +kernel
theorem dX6_talk_53 : decode cX6_talk 53 = .ok (.aload_n 0, 1) := by decide +kernel
theorem dX6_talk_54 : decode cX6_talk 54 = .ok (.getfield 12, 3) := by decide +kernel
theorem dX6_talk_57 : decode cX6_talk 57 = .ok (.iconst 0, 1) := by decide +kernel
theorem dX6_talk_58 : decode cX6_talk 58 = .ok (.invokevirtual 169, 3) := by decide +kernel
theorem dX6_talk_61 : decode cX6_talk 61 = .ok (.iinc 2 1, 3) := by decide +kernel
theorem dX6_talk_64 : decode cX6_talk 64 = .ok (.goto (-23), 3) := by decide +kernel
theorem dX6_talk_67 : decode cX6_talk 67 = .ok (.aload_n 0, 1) := by decide +kernel
theorem dX6_talk_68 : decode cX6_talk 68 = .ok (.getfield 12, 3) := by decide +kernel
theorem dX6_talk_71 : decode cX6_talk 71 = .ok (.invokevirtual 132, 3) := by decide +kernel
theorem dX6_talk_74 : decode cX6_talk 74 = .ok (.ireturn, 1) := by decide +kernel
theorem dX6_odds_0 : decode cX6_odds 0 = .ok (.aload_n 0, 1) := by decide +kernel
theorem dX6_odds_1 : decode cX6_odds 1 = .ok (.getfield 12, 3) := by decide +kernel
theorem dX6_odds_4 : decode cX6_odds 4 = .ok (.iload_n 1, 1) := by decide +kernel
theorem dX6_odds_5 : decode cX6_odds 5 = .ok (.invokevirtual 88, 3) := by decide +kernel
theorem dX6_odds_8 : decode cX6_odds 8 = .ok (.ifCond .eq 20, 3) := by decide +kernel
theorem dX6_odds_11 : decode cX6_odds 11 = .ok (.iload_n 2, 1) := by decide +kernel
theorem dX6_odds_12 : decode cX6_odds 12 = .ok (.bipush 15, 2) := by decide +kernel
theorem dX6_odds_14 : decode cX6_odds 14 = .ok (.invokestatic 51, 3) := by decide +kernel
theorem dX6_odds_17 : decode cX6_odds 17 = .ok (.ifCond .eq 11, 3) := by decide +kernel
theorem dX6_odds_20 : decode cX6_odds 20 = .ok (.iload_n 3, 1) := by decide +kernel
theorem dX6_odds_21 : decode cX6_odds 21 = .ok (.iconst 1, 1) := by decide +kernel
theorem dX6_odds_22 : decode cX6_odds 22 = .ok (.invokestatic 51, 3) := by decide +kernel
theorem dX6_odds_25 : decode cX6_odds 25 = .ok (.ifCond .ne 11, 3) := by decide +kernel
theorem dX6_odds_28 : decode cX6_odds 28 = .ok (.aload_n 0, 1) := by decide +kernel
theorem dX6_odds_29 : decode cX6_odds 29 = .ok (.ldc 59, 2) := by decide +kernel
theorem dX6_odds_31 : decode cX6_odds 31 = .ok (.invokevirtual 60, 3) := by decide +kernel
theorem dX6_odds_34 : decode cX6_odds 34 = .ok (.i2l, 1) := by decide +kernel
theorem dX6_odds_35 : decode cX6_odds 35 = .ok (.lreturn, 1) := by decide +kernel
theorem dX6_odds_36 : decode cX6_odds 36 = .ok (.aload_n 0, 1) := by decide +kernel
theorem dX6_odds_37 : decode cX6_odds 37 = .ok (.getfield 12, 3) := by decide +kernel
theorem dX6_odds_40 : decode cX6_odds 40 = .ok (.iload_n 1, 1) := by decide +kernel
theorem dX6_odds_41 : decode cX6_odds 41 = .ok (.invokevirtual 180, 3) := by decide +kernel
theorem dX6_odds_44 : decode cX6_odds 44 = .ok (.istore 4, 2) := by decide +kernel
theorem dX6_odds_46 : decode cX6_odds 46 = .ok (.bipush 16, 2) := by decide +kernel
theorem dX6_odds_48 : decode cX6_odds 48 = .ok (.istore 5, 2) := by decide +kernel
theorem dX6_odds_50 : decode cX6_odds 50 = .ok (.iload 5, 2) := by decide +kernel
theorem dX6_odds_52 : decode cX6_odds 52 = .ok (.iconst 1, 1) := by decide +kernel
theorem dX6_odds_53 : decode cX6_odds 53 = .ok (.if_icmp .le 25, 3) := by decide +kernel
theorem dX6_odds_56 : decode cX6_odds 56 = .ok (.iload 4, 2) := by decide +kernel
theorem dX6_odds_58 : decode cX6_odds 58 = .ok (.iconst 2, 1) := by decide +kernel
theorem dX6_odds_59 : decode cX6_odds 59 = .ok (.irem, 1) := by decide +kernel
theorem dX6_odds_60 : decode cX6_odds 60 = .ok (.ifCond .ne 18, 3) := by decide +kernel
theorem dX6_odds_63 : decode cX6_odds 63 = .ok (.iload 4, 2) := by decide +kernel
theorem dX6_odds_65 : decode cX6_odds 65 = .ok (.iconst 2, 1) := by decide +kernel
theorem dX6_odds_66 : decode cX6_odds 66 = .ok (.idiv, 1) := by decide +kernel
theorem dX6_odds_67 : decode cX6_odds 67 = .ok (.istore 4, 2) := by decide +kernel
theorem dX6_odds_69 : decode cX6_odds 69 = .ok (.iload 5, 2) := by decide +kernel
theorem dX6_odds_71 : decode cX6_odds 71 = .ok (.iconst 2, 1) := by decide +kernel
theorem dX6_odds_72 : decode cX6_odds 72 = .ok (.idiv, 1) := by decide +kernel
theorem dX6_odds_73 : decode cX6_odds 73 = .ok (.istore 5, 2) := by decide +kernel
theorem dX6_odds_75 : decode cX6_odds 75 = .ok (.goto (-25), 3) := by decide +kernel
theorem dX6_odds_78 : decode cX6_odds 78 = .ok (.iload_n 3, 1) := by decide +kernel
theorem dX6_odds_79 : decode cX6_odds 79 = .ok (.ifCond .ne 8, 3) := by decide +kernel
theorem dX6_odds_82 : decode cX6_odds 82 = .ok (.iload 4, 2) := by decide +kernel
theorem dX6_odds_84 : decode cX6_odds 84 = .ok (.goto 5, 3) := by decide +kernel
theorem dX6_odds_87 : decode cX6_odds 87 = .ok (.iload 5, 2) := by decide +kernel
theorem dX6_odds_89 : decode cX6_odds 89 = .ok (.iload_n 2, 1) := by decide +kernel
theorem dX6_odds_90 : decode cX6_odds 90 = .ok (.invokestatic 226, 3) := by decide +kernel
theorem dX6_odds_93 : decode cX6_odds 93 = .ok (.lreturn, 1) := by decide +kernel
theorem dX6_seed_0 : decode cX6_seed 0 = .ok (.aload_n 0, 1) := by decide +kernel
theorem dX6_seed_1 : decode cX6_seed 1 = .ok (.getfield 12, 3) := by decide +kernel
theorem dX6_seed_4 : decode cX6_seed 4 = .ok (.getfield 230, 3) := by decide +kernel
theorem dX6_seed_7 : decode cX6_seed 7 = .ok (.istore_n 2, 1) := by decide +kernel
theorem dX6_seed_8 : decode cX6_seed 8 = .ok (.aload_n 0, 1) := by decide +kernel
theorem dX6_seed_9 : decode cX6_seed 9 = .ok (.getfield 12, 3) := by decide +kernel
theorem dX6_seed_12 : decode cX6_seed 12 = .ok (.iload_n 1, 1) := by decide +kernel
theorem dX6_seed_13 : decode cX6_seed 13 = .ok (.putfield 230, 3) := by decide +kernel
theorem dX6_seed_16 : decode cX6_seed 16 = .ok (.iload_n 2, 1) := by decide +kernel
theorem dX6_seed_17 : decode cX6_seed 17 = .ok (.ireturn, 1) := by decide +kernel
theorem dX6_power_0 : decode cX6_power 0 = .ok (.lconst 1, 1) := by decide +kernel
theorem dX6_power_1 : decode cX6_power 1 = .ok (.lstore_n 2, 1) := by decide +kernel
theorem dX6_power_2 : decode cX6_power 2 = .ok (.iconst 0, 1) := by decide +kernel
theorem dX6_power_3 : decode cX6_power 3 = .ok (.istore 4, 2) := by decide +kernel
theorem dX6_power_5 : decode cX6_power 5 = .ok (.iload 4, 2) := by decide +kernel
theorem dX6_power_7 : decode cX6_power 7 = .ok (.iload_n 1, 1) := by decide +kernel
theorem dX6_power_8 : decode cX6_power 8 = .ok (.if_icmp .ge 14, 3) := by decide +kernel
theorem dX6_power_11 : decode cX6_power 11 = .ok (.lload_n 2, 1) := by decide +kernel
theorem dX6_power_12 : decode cX6_power 12 = .ok (.iload_n 0, 1) := by decide +kernel
theorem dX6_power_13 : decode cX6_power 13 = .ok (.i2l, 1) := by decide +kernel
theorem dX6_power_14 : decode cX6_power 14 = .ok (.lmul, 1) := by decide +kernel
theorem dX6_power_15 : decode cX6_power 15 = .ok (.lstore_n 2, 1) := by decide +kernel
theorem dX6_power_16 : decode cX6_power 16 = .ok (.iinc 4 1, 3) := by decide +kernel
theorem dX6_power_19 : decode cX6_power 19 = .ok (.goto (-14), 3) := by decide +kernel
theorem dX6_power_22 : decode cX6_power 22 = .ok (.lload_n 2, 1) := by decide +kernel
theorem dX6_power_23 : decode cX6_power 23 = .ok (.lreturn, 1) := by decide +kernel
theorem dX6_feed_0 : decode cX6_feed 0 = .ok (.iload_n 2, 1) := by decide +kernel
theorem dX6_feed_1 : decode cX6_feed 1 = .ok (.iconst 1, 1) := by decide +kernel
theorem dX6_feed_2 : decode cX6_feed 2 = .ok (.if_icmp .lt 8, 3) := by decide +kernel
theorem dX6_feed_5 : decode cX6_feed 5 = .ok (.iload_n 2, 1) := by decide +kernel
theorem dX6_feed_6 : decode cX6_feed 6 = .ok (.iconst 4, 1) := by decide +kernel
theorem dX6_feed_7 : decode cX6_feed 7 = .ok (.if_icmp .le 10, 3) := by decide +kernel
theorem dX6_feed_10 : decode cX6_feed 10 = .ok (.aload_n 0, 1) := by decide +kernel
theorem dX6_feed_11 : decode cX6_feed 11 = .ok (.ldc 59, 2) := by decide +kernel
theorem dX6_feed_13 : decode cX6_feed 13 = .ok (.invokevirtual 60, 3) := by decide +kernel
theorem dX6_feed_16 : decode cX6_feed 16 = .ok (.ireturn, 1) := by decide +kernel
theorem dX6_feed_17 : decode cX6_feed 17 = .ok (.aload_n 0, 1) := by decide +kernel
theorem dX6_feed_18 : decode cX6_feed 18 = .ok (.getfield 29, 3) := by decide +kernel
theorem dX6_feed_21 : decode cX6_feed 21 = .ok (.getfield 233, 3) := by decide +kernel
theorem dX6_feed_24 : decode cX6_feed 24 = .ok (.iload_n 2, 1) := by decide +kernel
theorem dX6_feed_25 : decode cX6_feed 25 = .ok (.iadd, 1) := by decide +kernel
theorem dX6_feed_26 : decode cX6_feed 26 = .ok (.bipush 120, 2) := by decide +kernel
theorem dX6_feed_28 : decode cX6_feed 28 = .ok (.if_icmp .le 10, 3) := by decide +kernel
theorem dX6_feed_31 : decode cX6_feed 31 = .ok (.aload_n 0, 1) := by decide +kernel
theorem dX6_feed_32 : decode cX6_feed 32 = .ok (.ldc 84, 2) := by decide +kernel
theorem dX6_feed_34 : decode cX6_feed 34 = .ok (.invokevirtual 60, 3) := by decide +kernel
theorem dX6_feed_37 : decode cX6_feed 37 = .ok (.ireturn, 1) := by decide +kernel
theorem dX6_feed_38 : decode cX6_feed 38 = .ok (.iload_n 2, 1) := by decide +kernel
theorem dX6_feed_39 : decode cX6_feed 39 = .ok (.iconst 1, 1) := by decide +kernel
theorem dX6_feed_40 : decode cX6_feed 40 = .ok (.isub, 1) := by decide +kernel
theorem dX6_feed_41 : decode cX6_feed 41 = .ok (.istore_n 3, 1) := by decide +kernel
theorem dX6_feed_42 : decode cX6_feed 42 = .ok (.iload_n 3, 1) := by decide +kernel
theorem dX6_feed_43 : decode cX6_feed 43 = .ok (.ifCond .lt 23, 3) := by decide +kernel
theorem dX6_feed_46 : decode cX6_feed 46 = .ok (.aload_n 0, 1) := by decide +kernel
theorem dX6_feed_47 : decode cX6_feed 47 = .ok (.getfield 29, 3) := by decide +kernel
theorem dX6_feed_50 : decode cX6_feed 50 = .ok (.iload_n 1, 1) := by decide +kernel
theorem dX6_feed_51 : decode cX6_feed 51 = .ok (.bipush 8, 2) := by decide +kernel
theorem dX6_feed_53 : decode cX6_feed 53 = .ok (.iload_n 3, 1) := by decide +kernel
theorem dX6_feed_54 : decode cX6_feed 54 = .ok (.imul, 1) := by decide +kernel
theorem dX6_feed_55 : decode cX6_feed 55 = .ok (.iushr, 1) := by decide +kernel
theorem dX6_feed_56 : decode cX6_feed 56 = .ok (.i2b, 1) := by decide +kernel
theorem dX6_feed_57 : decode cX6_feed 57 = .ok (.invokevirtual 236, 3) := by decide +kernel
theorem dX6_feed_60 : decode cX6_feed 60 = .ok (.iinc 3 (-1), 3) := by decide +kernel
theorem dX6_feed_63 : decode cX6_feed 63 = .ok (.goto (-21), 3) := by decide +kernel
theorem dX6_feed_66 : decode cX6_feed 66 = .ok (.aload_n 0, 1) := by decide +kernel
theorem dX6_feed_67 : decode cX6_feed 67 = .ok (.getfield 29, 3) := by decide +kernel
theorem dX6_feed_70 : decode cX6_feed 70 = .ok (.getfield 233, 3) := by decide +kernel
theorem dX6_feed_73 : decode cX6_feed 73 = .ok (.ireturn, 1) := by decide +kernel
theorem dX6_wipe_0 : decode cX6_wipe 0 = .ok (.aload_n 0, 1) := by decide +kernel
theorem dX6_wipe_1 : decode cX6_wipe 1 = .ok (.getfield 29, 3) := by decide +kernel
theorem dX6_wipe_4 : decode cX6_wipe 4 = .ok (.getfield 233, 3) := by decide +kernel
theorem dX6_wipe_7 : decode cX6_wipe 7 = .ok (.istore_n 1, 1) := by decide +kernel
theorem dX6_wipe_8 : decode cX6_wipe 8 = .ok (.aload_n 0, 1) := by decide +kernel
theorem dX6_wipe_9 : decode cX6_wipe 9 = .ok (.getfield 29, 3) := by decide +kernel
theorem dX6_wipe_12 : decode cX6_wipe 12 = .ok (.iconst 0, 1) := by decide +kernel
theorem dX6_wipe_13 : decode cX6_wipe 13 = .ok (.putfield 233, 3) := by decide +kernel
theorem dX6_wipe_16 : decode cX6_wipe 16 = .ok (.iload_n 1, 1) := by decide +kernel
theorem dX6_wipe_17 : decode cX6_wipe 17 = .ok (.ireturn, 1) := by decide +kernel
theorem dX6_text_0 : decode cX6_text 0 = .ok (.aload_n 0, 1) := by decide +kernel
theorem dX6_text_1 : decode cX6_text 1 = .ok (.getfield 19, 3) := by decide +kernel
theorem dX6_text_4 : decode cX6_text 4 = .ok (.aload_n 0, 1) := by decide +kernel
theorem dX6_text_5 : decode cX6_text 5 = .ok (.getfield 12, 3) := by decide +kernel
theorem dX6_text_8 : decode cX6_text 8 = .ok (.invokevirtual 157, 3) := by decide +kernel
theorem dX6_text_11 : decode cX6_text 11 = .ok (.aload_n 0, 1) := by decide +kernel
theorem dX6_text_12 : decode cX6_text 12 = .ok (.getfield 36, 3) := by decide +kernel
theorem dX6_text_15 : decode cX6_text 15 = .ok (.aload_n 0, 1) := by decide +kernel
theorem dX6_text_16 : decode cX6_text 16 = .ok (.getfield 29, 3) := by decide +kernel
theorem dX6_text_19 : decode cX6_text 19 = .ok (.aload_n 0, 1) := by decide +kernel
theorem dX6_text_20 : decode cX6_text 20 = .ok (.getfield 19, 3) := by decide +kernel
theorem dX6_text_23 : decode cX6_text 23 = .ok (.invokevirtual 240, 3) := by decide +kernel
theorem dX6_text_26 : decode cX6_text 26 = .ok (.istore_n 1, 1) := by decide +kernel
theorem dX6_text_27 : decode cX6_text 27 = .ok (.iload_n 1, 1) := by decide +kernel
theorem dX6_text_28 : decode cX6_text 28 = .ok (.ifCond .lt 14, 3) := by decide +kernel
theorem dX6_text_31 : decode cX6_text 31 = .ok (.aload_n 0, 1) := by decide +kernel
theorem dX6_text_32 : decode cX6_text 32 = .ok (.getfield 12, 3) := by decide +kernel
theorem dX6_text_35 : decode cX6_text 35 = .ok (.aload_n 0, 1) := by decide +kernel
theorem dX6_text_36 : decode cX6_text 36 = .ok (.getfield 19, 3) := by decide +kernel
theorem dX6_text_39 : decode cX6_text 39 = .ok (.invokevirtual 157, 3) := by decide +kernel
theorem dX6_text_42 : decode cX6_text 42 = .ok (.aload_n 0, 1) := by decide +kernel
theorem dX6_text_43 : decode cX6_text 43 = .ok (.getfield 29, 3) := by decide +kernel
theorem dX6_text_46 : decode cX6_text 46 = .ok (.iconst 0, 1) := by decide +kernel
theorem dX6_text_47 : decode cX6_text 47 = .ok (.putfield 233, 3) := by decide +kernel
theorem dX6_text_50 : decode cX6_text 50 = .ok (.iload_n 1, 1) := by decide +kernel
theorem dX6_text_51 : decode cX6_text 51 = .ok (.ireturn, 1) := by decide +kernel
theorem dX6_hold_0 : decode cX6_hold 0 = .ok (.iload_n 1, 1) := by decide +kernel
theorem dX6_hold_1 : decode cX6_hold 1 = .ok (.bipush 9, 2) := by decide +kernel
theorem dX6_hold_3 : decode cX6_hold 3 = .ok (.invokestatic 51, 3) := by decide +kernel
theorem dX6_hold_6 : decode cX6_hold 6 = .ok (.ifCond .eq 19, 3) := by decide +kernel
theorem dX6_hold_9 : decode cX6_hold 9 = .ok (.iload_n 2, 1) := by decide +kernel
theorem dX6_hold_10 : decode cX6_hold 10 = .ok (.iconst (-1), 1) := by decide +kernel
theorem dX6_hold_11 : decode cX6_hold 11 = .ok (.if_icmp .eq 21, 3) := by decide +kernel
theorem dX6_hold_14 : decode cX6_hold 14 = .ok (.aload_n 0, 1) := by decide +kernel
theorem dX6_hold_15 : decode cX6_hold 15 = .ok (.getfield 12, 3) := by decide +kernel
theorem dX6_hold_18 : decode cX6_hold 18 = .ok (.iload_n 2, 1) := by decide +kernel
theorem dX6_hold_19 : decode cX6_hold 19 = .ok (.invokevirtual 88, 3) := by decide +kernel
theorem dX6_hold_22 : decode cX6_hold 22 = .ok (.ifCond .ne 10, 3) := by decide +kernel
theorem dX6_hold_25 : decode cX6_hold 25 = .ok (.aload_n 0, 1) := by decide +kernel
theorem dX6_hold_26 : decode cX6_hold 26 = .ok (.ldc 59, 2) := by decide +kernel
theorem dX6_hold_28 : decode cX6_hold 28 = .ok (.invokevirtual 60, 3) := by decide +kernel
theorem dX6_hold_31 : decode cX6_hold 31 = .ok (.ireturn, 1) := by decide +kernel
theorem dX6_hold_32 : decode cX6_hold 32 = .ok (.aload_n 0, 1) := by decide +kernel
theorem dX6_hold_33 : decode cX6_hold 33 = .ok (.getfield 12, 3) := by decide +kernel
theorem dX6_hold_36 : decode cX6_hold 36 = .ok (.getfield 244, 3) := by decide +kernel
theorem dX6_hold_39 : decode cX6_hold 39 = .ok (.iload_n 1, 1) := by decide +kernel
theorem dX6_hold_40 : decode cX6_hold 40 = .ok (.iload_n 2, 1) := by decide +kernel
theorem dX6_hold_41 : decode cX6_hold 41 = .ok (.iastore, 1) := by decide +kernel
theorem dX6_hold_42 : decode cX6_hold 42 = .ok (.iconst 1, 1) := by decide +kernel
theorem dX6_hold_43 : decode cX6_hold 43 = .ok (.ireturn, 1) := by decide +kernel
theorem dX6_as_0 : decode cX6_as 0 = .ok (.iload_n 1, 1) := by decide +kernel
theorem dX6_as_1 : decode cX6_as 1 = .ok (.bipush 9, 2) := by decide +kernel
theorem dX6_as_3 : decode cX6_as 3 = .ok (.invokestatic 51, 3) := by decide +kernel
theorem dX6_as_6 : decode cX6_as 6 = .ok (.ifCond .eq 12, 3) := by decide +kernel
theorem dX6_as_9 : decode cX6_as 9 = .ok (.iload_n 2, 1) := by decide +kernel
theorem dX6_as_10 : decode cX6_as 10 = .ok (.bipush 6, 2) := by decide +kernel
theorem dX6_as_12 : decode cX6_as 12 = .ok (.invokestatic 51, 3) := by decide +kernel
theorem dX6_as_15 : decode cX6_as 15 = .ok (.ifCond .ne 10, 3) := by decide +kernel
theorem dX6_as_18 : decode cX6_as 18 = .ok (.aload_n 0, 1) := by decide +kernel
theorem dX6_as_19 : decode cX6_as 19 = .ok (.ldc 59, 2) := by decide +kernel
theorem dX6_as_21 : decode cX6_as 21 = .ok (.invokevirtual 60, 3) := by decide +kernel
theorem dX6_as_24 : decode cX6_as 24 = .ok (.ireturn, 1) := by decide +kernel
theorem dX6_as_25 : decode cX6_as 25 = .ok (.aload_n 0, 1) := by decide +kernel
theorem dX6_as_26 : decode cX6_as 26 = .ok (.getfield 12, 3) := by decide +kernel
theorem dX6_as_29 : decode cX6_as 29 = .ok (.getfield 244, 3) := by decide +kernel
theorem dX6_as_32 : decode cX6_as 32 = .ok (.iload_n 1, 1) := by decide +kernel
theorem dX6_as_33 : decode cX6_as 33 = .ok (.iaload, 1) := by decide +kernel
theorem dX6_as_34 : decode cX6_as 34 = .ok (.istore_n 3, 1) := by decide +kernel
theorem dX6_as_35 : decode cX6_as 35 = .ok (.aload_n 0, 1) := by decide +kernel
theorem dX6_as_36 : decode cX6_as 36 = .ok (.getfield 12, 3) := by decide +kernel
theorem dX6_as_39 : decode cX6_as 39 = .ok (.iload_n 3, 1) := by decide +kernel
theorem dX6_as_40 : decode cX6_as 40 = .ok (.invokevirtual 88, 3) := by decide +kernel
theorem dX6_as_43 : decode cX6_as 43 = .ok (.ifCond .ne 10, 3) := by decide +kernel
theorem dX6_as_46 : decode cX6_as 46 = .ok (.aload_n 0, 1) := by decide +kernel
theorem dX6_as_47 : decode cX6_as 47 = .ok (.ldc 247, 2) := by decide +kernel
theorem dX6_as_49 : decode cX6_as 49 = .ok (.invokevirtual 60, 3) := by decide +kernel
theorem dX6_as_52 : decode cX6_as 52 = .ok (.ireturn, 1) := by decide +kernel
theorem dX6_as_53 : decode cX6_as 53 = .ok (.aload_n 0, 1) := by decide +kernel
theorem dX6_as_54 : decode cX6_as 54 = .ok (.getfield 12, 3) := by decide +kernel
theorem dX6_as_57 : decode cX6_as 57 = .ok (.getfield 96, 3) := by decide +kernel
theorem dX6_as_60 : decode cX6_as 60 = .ok (.iload_n 3, 1) := by decide +kernel
theorem dX6_as_61 : decode cX6_as 61 = .ok (.aaload, 1) := by decide +kernel
theorem dX6_as_62 : decode cX6_as 62 = .ok (.iload_n 2, 1) := by decide +kernel
theorem dX6_as_63 : decode cX6_as 63 = .ok (.invokevirtual 248, 3) := by decide +kernel
theorem dX6_as_66 : decode cX6_as 66 = .ok (.ifCond .eq 7, 3) := by decide +kernel
theorem dX6_as_69 : decode cX6_as 69 = .ok (.iload_n 3, 1) := by decide +kernel
theorem dX6_as_70 : decode cX6_as 70 = .ok (.goto 9, 3) := by decide +kernel
theorem dX6_as_73 : decode cX6_as 73 = .ok (.aload_n 0, 1) := by decide +kernel
theorem dX6_as_74 : decode cX6_as 74 = .ok (.ldc 251, 2) := by decide +kernel
theorem dX6_as_76 : decode cX6_as 76 = .ok (.invokevirtual 60, 3) := by decide +kernel
theorem dX6_as_79 : decode cX6_as 79 = .ok (.ireturn, 1) := by decide +kernel
theorem dX6_sheet_0 : decode cX6_sheet 0 = .ok (.iload_n 1, 1) := by decide +kernel
theorem dX6_sheet_1 : decode cX6_sheet 1 = .ok (.invokestatic 252, 3) := by decide +kernel
theorem dX6_sheet_4 : decode cX6_sheet 4 = .ok (.ifCond .eq 25, 3) := by decide +kernel
theorem dX6_sheet_7 : decode cX6_sheet 7 = .ok (.iload_n 2, 1) := by decide +kernel
theorem dX6_sheet_8 : decode cX6_sheet 8 = .ok (.ifCond .eq 28, 3) := by decide +kernel
theorem dX6_sheet_11 : decode cX6_sheet 11 = .ok (.iload_n 2, 1) := by decide +kernel
theorem dX6_sheet_12 : decode cX6_sheet 12 = .ok (.bipush 8, 2) := by decide +kernel
theorem dX6_sheet_14 : decode cX6_sheet 14 = .ok (.if_icmp .eq 22, 3) := by decide +kernel
theorem dX6_sheet_17 : decode cX6_sheet 17 = .ok (.iload_n 2, 1) := by decide +kernel
theorem dX6_sheet_18 : decode cX6_sheet 18 = .ok (.bipush 16, 2) := by decide +kernel
theorem dX6_sheet_20 : decode cX6_sheet 20 = .ok (.if_icmp .eq 16, 3) := by decide +kernel
theorem dX6_sheet_23 : decode cX6_sheet 23 = .ok (.iload_n 2, 1) := by decide +kernel
theorem dX6_sheet_24 : decode cX6_sheet 24 = .ok (.bipush 32, 2) := by decide +kernel
theorem dX6_sheet_26 : decode cX6_sheet 26 = .ok (.if_icmp .eq 10, 3) := by decide +kernel
theorem dX6_sheet_29 : decode cX6_sheet 29 = .ok (.aload_n 0, 1) := by decide +kernel
theorem dX6_sheet_30 : decode cX6_sheet 30 = .ok (.ldc 59, 2) := by decide +kernel
theorem dX6_sheet_32 : decode cX6_sheet 32 = .ok (.invokevirtual 60, 3) := by decide +kernel
theorem dX6_sheet_35 : decode cX6_sheet 35 = .ok (.ireturn, 1) := by decide +kernel
theorem dX6_sheet_36 : decode cX6_sheet 36 = .ok (.iload_n 3, 1) := by decide +kernel
theorem dX6_sheet_37 : decode cX6_sheet 37 = .ok (.ifCond .ge 10, 3) := by decide +kernel
theorem dX6_sheet_40 : decode cX6_sheet 40 = .ok (.aload_n 0, 1) := by decide +kernel
theorem dX6_sheet_41 : decode cX6_sheet 41 = .ok (.ldc 255, 2) := by decide +kernel
theorem dX6_sheet_43 : decode cX6_sheet 43 = .ok (.invokevirtual 60, 3) := by decide +kernel
theorem dX6_sheet_46 : decode cX6_sheet 46 = .ok (.ireturn, 1) := by decide +kernel
theorem dX6_sheet_47 : decode cX6_sheet 47 = .ok (.iload_n 3, 1) := by decide +kernel
theorem dX6_sheet_48 : decode cX6_sheet 48 = .ok (.bipush 40, 2) := by decide +kernel
theorem dX6_sheet_50 : decode cX6_sheet 50 = .ok (.if_icmp .le 10, 3) := by decide +kernel
theorem dX6_sheet_53 : decode cX6_sheet 53 = .ok (.aload_n 0, 1) := by decide +kernel
theorem dX6_sheet_54 : decode cX6_sheet 54 = .ok (.ldc 59, 2) := by decide +kernel
theorem dX6_sheet_56 : decode cX6_sheet 56 = .ok (.invokevirtual 60, 3) := by decide +kernel
theorem dX6_sheet_59 : decode cX6_sheet 59 = .ok (.ireturn, 1) := by decide +kernel
theorem dX6_sheet_60 : decode cX6_sheet 60 = .ok (.aload_n 0, 1) := by decide +kernel
theorem dX6_sheet_61 : decode cX6_sheet 61 = .ok (.getfield 42, 3) := by decide +kernel
theorem dX6_sheet_64 : decode cX6_sheet 64 = .ok (.iload_n 1, 1) := by decide +kernel
theorem dX6_sheet_65 : decode cX6_sheet 65 = .ok (.aaload, 1) := by decide +kernel
theorem dX6_sheet_66 : decode cX6_sheet 66 = .ok (.iload_n 2, 1) := by decide +kernel
theorem dX6_sheet_67 : decode cX6_sheet 67 = .ok (.iload_n 2, 1) := by decide +kernel
theorem dX6_sheet_68 : decode cX6_sheet 68 = .ok (.ifCond .ne 7, 3) := by decide +kernel
theorem dX6_sheet_71 : decode cX6_sheet 71 = .ok (.iconst 0, 1) := by decide +kernel
theorem dX6_sheet_72 : decode cX6_sheet 72 = .ok (.goto 4, 3) := by decide +kernel
theorem dX6_sheet_75 : decode cX6_sheet 75 = .ok (.iload_n 3, 1) := by decide +kernel
theorem dX6_sheet_76 : decode cX6_sheet 76 = .ok (.invokevirtual 256, 3) := by decide +kernel
theorem dX6_sheet_79 : decode cX6_sheet 79 = .ok (.aload_n 0, 1) := by decide +kernel
theorem dX6_sheet_80 : decode cX6_sheet 80 = .ok (.getfield 42, 3) := by decide +kernel
theorem dX6_sheet_83 : decode cX6_sheet 83 = .ok (.iload_n 1, 1) := by decide +kernel
theorem dX6_sheet_84 : decode cX6_sheet 84 = .ok (.aaload, 1) := by decide +kernel
theorem dX6_sheet_85 : decode cX6_sheet 85 = .ok (.getfield 219, 3) := by decide +kernel
theorem dX6_sheet_88 : decode cX6_sheet 88 = .ok (.ireturn, 1) := by decide +kernel
theorem dX6_write_0 : decode cX6_write 0 = .ok (.aload_n 0, 1) := by decide +kernel
theorem dX6_write_1 : decode cX6_write 1 = .ok (.iload_n 1, 1) := by decide +kernel
theorem dX6_write_2 : decode cX6_write 2 = .ok (.invokevirtual 212, 3) := by decide +kernel
theorem dX6_write_5 : decode cX6_write 5 = .ok (.istore 4, 2) := by decide +kernel
theorem dX6_write_7 : decode cX6_write 7 = .ok (.iload 4, 2) := by decide +kernel
theorem dX6_write_9 : decode cX6_write 9 = .ok (.ifCond .eq 10, 3) := by decide +kernel
theorem dX6_write_12 : decode cX6_write 12 = .ok (.aload_n 0, 1) := by decide +kernel
theorem dX6_write_13 : decode cX6_write 13 = .ok (.iload 4, 2) := by decide +kernel
theorem dX6_write_15 : decode cX6_write 15 = .ok (.invokevirtual 60, 3) := by decide +kernel
theorem dX6_write_18 : decode cX6_write 18 = .ok (.ireturn, 1) := by decide +kernel
theorem dX6_write_19 : decode cX6_write 19 = .ok (.iload_n 2, 1) := by decide +kernel
theorem dX6_write_20 : decode cX6_write 20 = .ok (.aload_n 0, 1) := by decide +kernel
theorem dX6_write_21 : decode cX6_write 21 = .ok (.getfield 42, 3) := by decide +kernel
theorem dX6_write_24 : decode cX6_write 24 = .ok (.iload_n 1, 1) := by decide +kernel
theorem dX6_write_25 : decode cX6_write 25 = .ok (.aaload, 1) := by decide +kernel
theorem dX6_write_26 : decode cX6_write 26 = .ok (.getfield 219, 3) := by decide +kernel
theorem dX6_write_29 : decode cX6_write 29 = .ok (.iconst 1, 1) := by decide +kernel
theorem dX6_write_30 : decode cX6_write 30 = .ok (.isub, 1) := by decide +kernel
theorem dX6_write_31 : decode cX6_write 31 = .ok (.invokestatic 51, 3) := by decide +kernel
theorem dX6_write_34 : decode cX6_write 34 = .ok (.ifCond .ne 10, 3) := by decide +kernel
theorem dX6_write_37 : decode cX6_write 37 = .ok (.aload_n 0, 1) := by decide +kernel
theorem dX6_write_38 : decode cX6_write 38 = .ok (.ldc 59, 2) := by decide +kernel
theorem dX6_write_40 : decode cX6_write 40 = .ok (.invokevirtual 60, 3) := by decide +kernel
theorem dX6_write_43 : decode cX6_write 43 = .ok (.ireturn, 1) := by decide +kernel
theorem dX6_write_44 : decode cX6_write 44 = .ok (.aload_n 0, 1) := by decide +kernel
theorem dX6_write_45 : decode cX6_write 45 = .ok (.getfield 42, 3) := by decide +kernel
theorem dX6_write_48 : decode cX6_write 48 = .ok (.iload_n 1, 1) := by decide +kernel
theorem dX6_write_49 : decode cX6_write 49 = .ok (.aaload, 1) := by decide +kernel
theorem dX6_write_50 : decode cX6_write 50 = .ok (.iload_n 2, 1) := by decide +kernel
theorem dX6_write_51 : decode cX6_write 51 = .ok (.iload_n 3, 1) := by decide +kernel
theorem dX6_write_52 : decode cX6_write 52 = .ok (.invokevirtual 259, 3) := by decide +kernel
theorem dX6_write_55 : decode cX6_write 55 = .ok (.iconst 1, 1) := by decide +kernel
theorem dX6_write_56 : decode cX6_write 56 = .ok (.ireturn, 1) := by decide +kernel
theorem dX6_copy_0 : decode cX6_copy 0 = .ok (.iload_n 1, 1) := by decide +kernel
theorem dX6_copy_1 : decode cX6_copy 1 = .ok (.invokestatic 252, 3) := by decide +kernel
theorem dX6_copy_4 : decode cX6_copy 4 = .ok (.ifCond .eq 10, 3) := by decide +kernel
theorem dX6_copy_7 : decode cX6_copy 7 = .ok (.iload_n 3, 1) := by decide +kernel
theorem dX6_copy_8 : decode cX6_copy 8 = .ok (.invokestatic 252, 3) := by decide +kernel
theorem dX6_copy_11 : decode cX6_copy 11 = .ok (.ifCond .ne 10, 3) := by decide +kernel
theorem dX6_copy_14 : decode cX6_copy 14 = .ok (.aload_n 0, 1) := by decide +kernel
theorem dX6_copy_15 : decode cX6_copy 15 = .ok (.ldc 59, 2) := by decide +kernel
theorem dX6_copy_17 : decode cX6_copy 17 = .ok (.invokevirtual 60, 3) := by decide +kernel
theorem dX6_copy_20 : decode cX6_copy 20 = .ok (.ireturn, 1) := by decide +kernel
theorem dX6_copy_21 : decode cX6_copy 21 = .ok (.aload_n 0, 1) := by decide +kernel
theorem dX6_copy_22 : decode cX6_copy 22 = .ok (.getfield 42, 3) := by decide +kernel
theorem dX6_copy_25 : decode cX6_copy 25 = .ok (.iload_n 1, 1) := by decide +kernel
theorem dX6_copy_26 : decode cX6_copy 26 = .ok (.aaload, 1) := by decide +kernel
theorem dX6_copy_27 : decode cX6_copy 27 = .ok (.astore 6, 2) := by decide +kernel
theorem dX6_copy_29 : decode cX6_copy 29 = .ok (.aload_n 0, 1) := by decide +kernel
theorem dX6_copy_30 : decode cX6_copy 30 = .ok (.getfield 42, 3) := by decide +kernel
theorem dX6_copy_33 : decode cX6_copy 33 = .ok (.iload_n 3, 1) := by decide +kernel
theorem dX6_copy_34 : decode cX6_copy 34 = .ok (.aaload, 1) := by decide +kernel
theorem dX6_copy_35 : decode cX6_copy 35 = .ok (.astore 7, 2) := by decide +kernel
theorem dX6_copy_37 : decode cX6_copy 37 = .ok (.aload 6, 2) := by decide +kernel
theorem dX6_copy_39 : decode cX6_copy 39 = .ok (.invokevirtual 262, 3) := by decide +kernel
theorem dX6_copy_42 : decode cX6_copy 42 = .ok (.ifCond .ne 11, 3) := by decide +kernel
theorem dX6_copy_45 : decode cX6_copy 45 = .ok (.aload 7, 2) := by decide +kernel
theorem dX6_copy_47 : decode cX6_copy 47 = .ok (.invokevirtual 262, 3) := by decide +kernel
theorem dX6_copy_50 : decode cX6_copy 50 = .ok (.ifCond .eq 10, 3) := by decide +kernel
theorem dX6_copy_53 : decode cX6_copy 53 = .ok (.aload_n 0, 1) := by decide +kernel
theorem dX6_copy_54 : decode cX6_copy 54 = .ok (.ldc 247, 2) := by decide +kernel
theorem dX6_copy_56 : decode cX6_copy 56 = .ok (.invokevirtual 60, 3) := by decide +kernel
theorem dX6_copy_59 : decode cX6_copy 59 = .ok (.ireturn, 1) := by decide +kernel
theorem dX6_copy_60 : decode cX6_copy 60 = .ok (.aload 6, 2) := by decide +kernel
theorem dX6_copy_62 : decode cX6_copy 62 = .ok (.getfield 266, 3) := by decide +kernel
theorem dX6_copy_65 : decode cX6_copy 65 = .ok (.aload 7, 2) := by decide +kernel
theorem dX6_copy_67 : decode cX6_copy 67 = .ok (.getfield 266, 3) := by decide +kernel
theorem dX6_copy_70 : decode cX6_copy 70 = .ok (.if_icmp .eq 10, 3) := by decide +kernel
theorem dX6_copy_73 : decode cX6_copy 73 = .ok (.aload_n 0, 1) := by decide +kernel
theorem dX6_copy_74 : decode cX6_copy 74 = .ok (.ldc 251, 2) := by decide +kernel
theorem dX6_copy_76 : decode cX6_copy 76 = .ok (.invokevirtual 60, 3) := by decide +kernel
theorem dX6_copy_79 : decode cX6_copy 79 = .ok (.ireturn, 1) := by decide +kernel
theorem dX6_copy_80 : decode cX6_copy 80 = .ok (.aload 6, 2) := by decide +kernel
theorem dX6_copy_82 : decode cX6_copy 82 = .ok (.iload_n 2, 1) := by decide +kernel
theorem dX6_copy_83 : decode cX6_copy 83 = .ok (.iload 5, 2) := by decide +kernel
theorem dX6_copy_85 : decode cX6_copy 85 = .ok (.invokevirtual 269, 3) := by decide +kernel
theorem dX6_copy_88 : decode cX6_copy 88 = .ok (.ifCond .eq 15, 3) := by decide +kernel
theorem dX6_copy_91 : decode cX6_copy 91 = .ok (.aload 7, 2) := by decide +kernel
theorem dX6_copy_93 : decode cX6_copy 93 = .ok (.iload 4, 2) := by decide +kernel
theorem dX6_copy_95 : decode cX6_copy 95 = .ok (.iload 5, 2) := by decide +kernel
theorem dX6_copy_97 : decode cX6_copy 97 = .ok (.invokevirtual 269, 3) := by decide +kernel
theorem dX6_copy_100 : decode cX6_copy 100 = .ok (.ifCond .ne 10, 3) := by decide +kernel
theorem dX6_copy_103 : decode cX6_copy 103 = .ok (.aload_n 0, 1) := by decide +kernel
theorem dX6_copy_104 : decode cX6_copy 104 = .ok (.ldc 59, 2) := by decide +kernel
theorem dX6_copy_106 : decode cX6_copy 106 = .ok (.invokevirtual 60, 3) := by decide +kernel
theorem dX6_copy_109 : decode cX6_copy 109 = .ok (.ireturn, 1) := by decide +kernel
theorem dX6_copy_110 : decode cX6_copy 110 = .ok (.aload 6, 2) := by decide +kernel
theorem dX6_copy_112 : decode cX6_copy 112 = .ok (.getfield 220, 3) := by decide +kernel
theorem dX6_copy_115 : decode cX6_copy 115 = .ok (.iload_n 2, 1) := by decide +kernel
theorem dX6_copy_116 : decode cX6_copy 116 = .ok (.aload 7, 2) := by decide +kernel
theorem dX6_copy_118 : decode cX6_copy 118 = .ok (.getfield 220, 3) := by decide +kernel
theorem dX6_copy_121 : decode cX6_copy 121 = .ok (.iload 4, 2) := by decide +kernel
theorem dX6_copy_123 : decode cX6_copy 123 = .ok (.iload 5, 2) := by decide +kernel
theorem dX6_copy_125 : decode cX6_copy 125 = .ok (.invokestatic 272, 3) := by decide +kernel
theorem dX6_copy_128 : decode cX6_copy 128 = .ok (.iload 5, 2) := by decide +kernel
theorem dX6_copy_130 : decode cX6_copy 130 = .ok (.ireturn, 1) := by decide +kernel
theorem dX6_load_0 : decode cX6_load 0 = .ok (.aload_n 0, 1) := by decide +kernel
theorem dX6_load_1 : decode cX6_load 1 = .ok (.iload_n 1, 1) := by decide +kernel
theorem dX6_load_2 : decode cX6_load 2 = .ok (.invokevirtual 212, 3) := by decide +kernel
theorem dX6_load_5 : decode cX6_load 5 = .ok (.istore_n 2, 1) := by decide +kernel
theorem dX6_load_6 : decode cX6_load 6 = .ok (.iload_n 2, 1) := by decide +kernel
theorem dX6_load_7 : decode cX6_load 7 = .ok (.ifCond .eq 9, 3) := by decide +kernel
theorem dX6_load_10 : decode cX6_load 10 = .ok (.aload_n 0, 1) := by decide +kernel
theorem dX6_load_11 : decode cX6_load 11 = .ok (.iload_n 2, 1) := by decide +kernel
theorem dX6_load_12 : decode cX6_load 12 = .ok (.invokevirtual 60, 3) := by decide +kernel
theorem dX6_load_15 : decode cX6_load 15 = .ok (.ireturn, 1) := by decide +kernel
theorem dX6_load_16 : decode cX6_load 16 = .ok (.iconst 0, 1) := by decide +kernel
theorem dX6_load_17 : decode cX6_load 17 = .ok (.istore_n 3, 1) := by decide +kernel
theorem dX6_load_18 : decode cX6_load 18 = .ok (.iload_n 3, 1) := by decide +kernel
theorem dX6_load_19 : decode cX6_load 19 = .ok (.bipush 6, 2) := by decide +kernel
theorem dX6_load_21 : decode cX6_load 21 = .ok (.if_icmp .ge 59, 3) := by decide +kernel
theorem dX6_load_24 : decode cX6_load 24 = .ok (.iload_n 3, 1) := by decide +kernel
theorem dX6_load_25 : decode cX6_load 25 = .ok (.aload_n 0, 1) := by decide +kernel
theorem dX6_load_26 : decode cX6_load 26 = .ok (.getfield 42, 3) := by decide +kernel
theorem dX6_load_29 : decode cX6_load 29 = .ok (.iload_n 1, 1) := by decide +kernel
theorem dX6_load_30 : decode cX6_load 30 = .ok (.aaload, 1) := by decide +kernel
theorem dX6_load_31 : decode cX6_load 31 = .ok (.getfield 219, 3) := by decide +kernel
theorem dX6_load_34 : decode cX6_load 34 = .ok (.if_icmp .ge 46, 3) := by decide +kernel
theorem dX6_load_37 : decode cX6_load 37 = .ok (.aload_n 0, 1) := by decide +kernel
theorem dX6_load_38 : decode cX6_load 38 = .ok (.getfield 42, 3) := by decide +kernel
theorem dX6_load_41 : decode cX6_load 41 = .ok (.iload_n 1, 1) := by decide +kernel
theorem dX6_load_42 : decode cX6_load 42 = .ok (.aaload, 1) := by decide +kernel
theorem dX6_load_43 : decode cX6_load 43 = .ok (.getfield 220, 3) := by decide +kernel
theorem dX6_load_46 : decode cX6_load 46 = .ok (.iload_n 3, 1) := by decide +kernel
theorem dX6_load_47 : decode cX6_load 47 = .ok (.iaload, 1) := by decide +kernel
theorem dX6_load_48 : decode cX6_load 48 = .ok (.invokestatic 55, 3) := by decide +kernel
theorem dX6_load_51 : decode cX6_load 51 = .ok (.ifCond .eq 29, 3) := by decide +kernel
theorem dX6_load_54 : decode cX6_load 54 = .ok (.aload_n 0, 1) := by decide +kernel
theorem dX6_load_55 : decode cX6_load 55 = .ok (.getfield 12, 3) := by decide +kernel
theorem dX6_load_58 : decode cX6_load 58 = .ok (.getfield 64, 3) := by decide +kernel
theorem dX6_load_61 : decode cX6_load 61 = .ok (.iload_n 3, 1) := by decide +kernel
theorem dX6_load_62 : decode cX6_load 62 = .ok (.aload_n 0, 1) := by decide +kernel
theorem dX6_load_63 : decode cX6_load 63 = .ok (.getfield 42, 3) := by decide +kernel
theorem dX6_load_66 : decode cX6_load 66 = .ok (.iload_n 1, 1) := by decide +kernel
theorem dX6_load_67 : decode cX6_load 67 = .ok (.aaload, 1) := by decide +kernel
theorem dX6_load_68 : decode cX6_load 68 = .ok (.getfield 220, 3) := by decide +kernel
theorem dX6_load_71 : decode cX6_load 71 = .ok (.iload_n 3, 1) := by decide +kernel
theorem dX6_load_72 : decode cX6_load 72 = .ok (.iaload, 1) := by decide +kernel
theorem dX6_load_73 : decode cX6_load 73 = .ok (.iastore, 1) := by decide +kernel
theorem dX6_load_74 : decode cX6_load 74 = .ok (.iinc 3 1, 3) := by decide +kernel
theorem dX6_load_77 : decode cX6_load 77 = .ok (.goto (-59), 3) := by decide +kernel
theorem dX6_load_80 : decode cX6_load 80 = .ok (.iload_n 3, 1) := by decide +kernel
theorem dX6_load_81 : decode cX6_load 81 = .ok (.ireturn, 1) := by decide +kernel
theorem dX6_judge_0 : decode cX6_judge 0 = .ok (.aload_n 0, 1) := by decide +kernel
theorem dX6_judge_1 : decode cX6_judge 1 = .ok (.iload_n 1, 1) := by decide +kernel
theorem dX6_judge_2 : decode cX6_judge 2 = .ok (.invokevirtual 212, 3) := by decide +kernel
theorem dX6_judge_5 : decode cX6_judge 5 = .ok (.istore_n 2, 1) := by decide +kernel
theorem dX6_judge_6 : decode cX6_judge 6 = .ok (.iload_n 2, 1) := by decide +kernel
theorem dX6_judge_7 : decode cX6_judge 7 = .ok (.ifCond .eq 9, 3) := by decide +kernel
theorem dX6_judge_10 : decode cX6_judge 10 = .ok (.aload_n 0, 1) := by decide +kernel
theorem dX6_judge_11 : decode cX6_judge 11 = .ok (.iload_n 2, 1) := by decide +kernel
theorem dX6_judge_12 : decode cX6_judge 12 = .ok (.invokevirtual 60, 3) := by decide +kernel
theorem dX6_judge_15 : decode cX6_judge 15 = .ok (.ireturn, 1) := by decide +kernel
theorem dX6_judge_16 : decode cX6_judge 16 = .ok (.iconst 0, 1) := by decide +kernel
theorem dX6_judge_17 : decode cX6_judge 17 = .ok (.istore_n 3, 1) := by decide +kernel
theorem dX6_judge_18 : decode cX6_judge 18 = .ok (.iload_n 3, 1) := by decide +kernel
theorem dX6_judge_19 : decode cX6_judge 19 = .ok (.aload_n 0, 1) := by decide +kernel
theorem dX6_judge_20 : decode cX6_judge 20 = .ok (.getfield 42, 3) := by decide +kernel
theorem dX6_judge_23 : decode cX6_judge 23 = .ok (.iload_n 1, 1) := by decide +kernel
theorem dX6_judge_24 : decode cX6_judge 24 = .ok (.aaload, 1) := by decide +kernel
theorem dX6_judge_25 : decode cX6_judge 25 = .ok (.getfield 219, 3) := by decide +kernel
theorem dX6_judge_28 : decode cX6_judge 28 = .ok (.if_icmp .ge 50, 3) := by decide +kernel
theorem dX6_judge_31 : decode cX6_judge 31 = .ok (.aload_n 0, 1) := by decide +kernel
theorem dX6_judge_32 : decode cX6_judge 32 = .ok (.getfield 12, 3) := by decide +kernel
theorem dX6_judge_35 : decode cX6_judge 35 = .ok (.iload_n 3, 1) := by decide +kernel
theorem dX6_judge_36 : decode cX6_judge 36 = .ok (.invokevirtual 88, 3) := by decide +kernel
theorem dX6_judge_39 : decode cX6_judge 39 = .ok (.ifCond .eq 29, 3) := by decide +kernel
theorem dX6_judge_42 : decode cX6_judge 42 = .ok (.aload_n 0, 1) := by decide +kernel
theorem dX6_judge_43 : decode cX6_judge 43 = .ok (.getfield 12, 3) := by decide +kernel
theorem dX6_judge_46 : decode cX6_judge 46 = .ok (.getfield 96, 3) := by decide +kernel
theorem dX6_judge_49 : decode cX6_judge 49 = .ok (.iload_n 3, 1) := by decide +kernel
theorem dX6_judge_50 : decode cX6_judge 50 = .ok (.aaload, 1) := by decide +kernel
theorem dX6_judge_51 : decode cX6_judge 51 = .ok (.getfield 118, 3) := by decide +kernel
theorem dX6_judge_54 : decode cX6_judge 54 = .ok (.aload_n 0, 1) := by decide +kernel
theorem dX6_judge_55 : decode cX6_judge 55 = .ok (.getfield 42, 3) := by decide +kernel
theorem dX6_judge_58 : decode cX6_judge 58 = .ok (.iload_n 1, 1) := by decide +kernel
theorem dX6_judge_59 : decode cX6_judge 59 = .ok (.aaload, 1) := by decide +kernel
theorem dX6_judge_60 : decode cX6_judge 60 = .ok (.getfield 220, 3) := by decide +kernel
theorem dX6_judge_63 : decode cX6_judge 63 = .ok (.iload_n 3, 1) := by decide +kernel
theorem dX6_judge_64 : decode cX6_judge 64 = .ok (.iaload, 1) := by decide +kernel
theorem dX6_judge_65 : decode cX6_judge 65 = .ok (.if_icmp .eq 7, 3) := by decide +kernel
theorem dX6_judge_68 : decode cX6_judge 68 = .ok (.iconst 1, 1) := by decide +kernel
theorem dX6_judge_69 : decode cX6_judge 69 = .ok (.iload_n 3, 1) := by decide +kernel
theorem dX6_judge_70 : decode cX6_judge 70 = .ok (.iadd, 1) := by decide +kernel
theorem dX6_judge_71 : decode cX6_judge 71 = .ok (.ireturn, 1) := by decide +kernel
theorem dX6_judge_72 : decode cX6_judge 72 = .ok (.iinc 3 1, 3) := by decide +kernel
theorem dX6_judge_75 : decode cX6_judge 75 = .ok (.goto (-57), 3) := by decide +kernel
theorem dX6_judge_78 : decode cX6_judge 78 = .ok (.iconst 0, 1) := by decide +kernel
theorem dX6_judge_79 : decode cX6_judge 79 = .ok (.ireturn, 1) := by decide +kernel
theorem dX6_image_0 : decode cX6_image 0 = .ok (.aload_n 0, 1) := by decide +kernel
theorem dX6_image_1 : decode cX6_image 1 = .ok (.getfield 16, 3) := by decide +kernel
theorem dX6_image_4 : decode cX6_image 4 = .ok (.aload_n 0, 1) := by decide +kernel
theorem dX6_image_5 : decode cX6_image 5 = .ok (.getfield 12, 3) := by decide +kernel
theorem dX6_image_8 : decode cX6_image 8 = .ok (.invokevirtual 157, 3) := by decide +kernel
theorem dX6_image_11 : decode cX6_image 11 = .ok (.aload_n 0, 1) := by decide +kernel
theorem dX6_image_12 : decode cX6_image 12 = .ok (.iconst 1, 1) := by decide +kernel
theorem dX6_image_13 : decode cX6_image 13 = .ok (.putfield 22, 3) := by decide +kernel
theorem dX6_image_16 : decode cX6_image 16 = .ok (.iconst 1, 1) := by decide +kernel
theorem dX6_image_17 : decode cX6_image 17 = .ok (.ireturn, 1) := by decide +kernel
theorem dX6_undo_0 : decode cX6_undo 0 = .ok (.aload_n 0, 1) := by decide +kernel
theorem dX6_undo_1 : decode cX6_undo 1 = .ok (.getfield 22, 3) := by decide +kernel
theorem dX6_undo_4 : decode cX6_undo 4 = .ok (.ifCond .ne 10, 3) := by decide +kernel
theorem dX6_undo_7 : decode cX6_undo 7 = .ok (.aload_n 0, 1) := by decide +kernel
theorem dX6_undo_8 : decode cX6_undo 8 = .ok (.ldc 173, 2) := by decide +kernel
theorem dX6_undo_10 : decode cX6_undo 10 = .ok (.invokevirtual 60, 3) := by decide +kernel
theorem dX6_undo_13 : decode cX6_undo 13 = .ok (.ireturn, 1) := by decide +kernel
theorem dX6_undo_14 : decode cX6_undo 14 = .ok (.aload_n 0, 1) := by decide +kernel
theorem dX6_undo_15 : decode cX6_undo 15 = .ok (.getfield 12, 3) := by decide +kernel
theorem dX6_undo_18 : decode cX6_undo 18 = .ok (.aload_n 0, 1) := by decide +kernel
theorem dX6_undo_19 : decode cX6_undo 19 = .ok (.getfield 16, 3) := by decide +kernel
theorem dX6_undo_22 : decode cX6_undo 22 = .ok (.invokevirtual 157, 3) := by decide +kernel
theorem dX6_undo_25 : decode cX6_undo 25 = .ok (.aload_n 0, 1) := by decide +kernel
theorem dX6_undo_26 : decode cX6_undo 26 = .ok (.getfield 12, 3) := by decide +kernel
theorem dX6_undo_29 : decode cX6_undo 29 = .ok (.getfield 125, 3) := by decide +kernel
theorem dX6_undo_32 : decode cX6_undo 32 = .ok (.ireturn, 1) := by decide +kernel
theorem dX6_tear_0 : decode cX6_tear 0 = .ok (.aload_n 0, 1) := by decide +kernel
theorem dX6_tear_1 : decode cX6_tear 1 = .ok (.getfield 22, 3) := by decide +kernel
theorem dX6_tear_4 : decode cX6_tear 4 = .ok (.ifCond .eq 7, 3) := by decide +kernel
theorem dX6_tear_7 : decode cX6_tear 7 = .ok (.iconst 1, 1) := by decide +kernel
theorem dX6_tear_8 : decode cX6_tear 8 = .ok (.goto 4, 3) := by decide +kernel
theorem dX6_tear_11 : decode cX6_tear 11 = .ok (.iconst 0, 1) := by decide +kernel
theorem dX6_tear_12 : decode cX6_tear 12 = .ok (.istore_n 1, 1) := by decide +kernel
theorem dX6_tear_13 : decode cX6_tear 13 = .ok (.aload_n 0, 1) := by decide +kernel
theorem dX6_tear_14 : decode cX6_tear 14 = .ok (.iconst 0, 1) := by decide +kernel
theorem dX6_tear_15 : decode cX6_tear 15 = .ok (.putfield 22, 3) := by decide +kernel
theorem dX6_tear_18 : decode cX6_tear 18 = .ok (.iload_n 1, 1) := by decide +kernel
theorem dX6_tear_19 : decode cX6_tear 19 = .ok (.ireturn, 1) := by decide +kernel
theorem dX6_count_0 : decode cX6_count 0 = .ok (.iload_n 1, 1) := by decide +kernel
theorem dX6_count_1 : decode cX6_count 1 = .ok (.tableswitch 117 0 7 #[47, 55, 63, 74, 85, 93, 101, 109], 47) := by decide +kernel
theorem dX6_count_48 : decode cX6_count 48 = .ok (.aload_n 0, 1) := by decide +kernel
theorem dX6_count_49 : decode cX6_count 49 = .ok (.getfield 12, 3) := by decide +kernel
theorem dX6_count_52 : decode cX6_count 52 = .ok (.getfield 125, 3) := by decide +kernel
theorem dX6_count_55 : decode cX6_count 55 = .ok (.ireturn, 1) := by decide +kernel
theorem dX6_count_56 : decode cX6_count 56 = .ok (.aload_n 0, 1) := by decide +kernel
theorem dX6_count_57 : decode cX6_count 57 = .ok (.getfield 12, 3) := by decide +kernel
theorem dX6_count_60 : decode cX6_count 60 = .ok (.getfield 80, 3) := by decide +kernel
theorem dX6_count_63 : decode cX6_count 63 = .ok (.ireturn, 1) := by decide +kernel
theorem dX6_count_64 : decode cX6_count 64 = .ok (.aload_n 0, 1) := by decide +kernel
theorem dX6_count_65 : decode cX6_count 65 = .ok (.getfield 12, 3) := by decide +kernel
theorem dX6_count_68 : decode cX6_count 68 = .ok (.invokevirtual 132, 3) := by decide +kernel
theorem dX6_count_71 : decode cX6_count 71 = .ok (.invokestatic 204, 3) := by decide +kernel
theorem dX6_count_74 : decode cX6_count 74 = .ok (.ireturn, 1) := by decide +kernel
theorem dX6_count_75 : decode cX6_count 75 = .ok (.aload_n 0, 1) := by decide +kernel
theorem dX6_count_76 : decode cX6_count 76 = .ok (.getfield 12, 3) := by decide +kernel
theorem dX6_count_79 : decode cX6_count 79 = .ok (.invokevirtual 135, 3) := by decide +kernel
theorem dX6_count_82 : decode cX6_count 82 = .ok (.invokestatic 204, 3) := by decide +kernel
theorem dX6_count_85 : decode cX6_count 85 = .ok (.ireturn, 1) := by decide +kernel
theorem dX6_count_86 : decode cX6_count 86 = .ok (.aload_n 0, 1) := by decide +kernel
theorem dX6_count_87 : decode cX6_count 87 = .ok (.getfield 12, 3) := by decide +kernel
theorem dX6_count_90 : decode cX6_count 90 = .ok (.invokevirtual 142, 3) := by decide +kernel
theorem dX6_count_93 : decode cX6_count 93 = .ok (.ireturn, 1) := by decide +kernel
theorem dX6_count_94 : decode cX6_count 94 = .ok (.aload_n 0, 1) := by decide +kernel
theorem dX6_count_95 : decode cX6_count 95 = .ok (.getfield 29, 3) := by decide +kernel
theorem dX6_count_98 : decode cX6_count 98 = .ok (.getfield 233, 3) := by decide +kernel
theorem dX6_count_101 : decode cX6_count 101 = .ok (.ireturn, 1) := by decide +kernel
theorem dX6_count_102 : decode cX6_count 102 = .ok (.aload_n 0, 1) := by decide +kernel
theorem dX6_count_103 : decode cX6_count 103 = .ok (.getfield 12, 3) := by decide +kernel
theorem dX6_count_106 : decode cX6_count 106 = .ok (.getfield 230, 3) := by decide +kernel
theorem dX6_count_109 : decode cX6_count 109 = .ok (.ireturn, 1) := by decide +kernel
theorem dX6_count_110 : decode cX6_count 110 = .ok (.aload_n 0, 1) := by decide +kernel
theorem dX6_count_111 : decode cX6_count 111 = .ok (.getfield 12, 3) := by decide +kernel
theorem dX6_count_114 : decode cX6_count 114 = .ok (.invokevirtual 278, 3) := by decide +kernel
theorem dX6_count_117 : decode cX6_count 117 = .ok (.ireturn, 1) := by decide +kernel
theorem dX6_count_118 : decode cX6_count 118 = .ok (.aload_n 0, 1) := by decide +kernel
theorem dX6_count_119 : decode cX6_count 119 = .ok (.ldc 59, 2) := by decide +kernel
theorem dX6_count_121 : decode cX6_count 121 = .ok (.invokevirtual 60, 3) := by decide +kernel
theorem dX6_count_124 : decode cX6_count 124 = .ok (.ireturn, 1) := by decide +kernel
theorem dX6_status_0 : decode cX6_status 0 = .ok (.iload_n 1, 1) := by decide +kernel
theorem dX6_status_1 : decode cX6_status 1 = .ok (.iconst (-1), 1) := by decide +kernel
theorem dX6_status_2 : decode cX6_status 2 = .ok (.if_icmp .ne 30, 3) := by decide +kernel
theorem dX6_status_5 : decode cX6_status 5 = .ok (.iconst 0, 1) := by decide +kernel
theorem dX6_status_6 : decode cX6_status 6 = .ok (.istore_n 2, 1) := by decide +kernel
theorem dX6_status_7 : decode cX6_status 7 = .ok (.iconst 0, 1) := by decide +kernel
theorem dX6_status_8 : decode cX6_status 8 = .ok (.istore_n 3, 1) := by decide +kernel
theorem dX6_status_9 : decode cX6_status 9 = .ok (.iload_n 3, 1) := by decide +kernel
theorem dX6_status_10 : decode cX6_status 10 = .ok (.bipush 7, 2) := by decide +kernel
theorem dX6_status_12 : decode cX6_status 12 = .ok (.if_icmp .ge 18, 3) := by decide +kernel
theorem dX6_status_15 : decode cX6_status 15 = .ok (.iload_n 2, 1) := by decide +kernel
theorem dX6_status_16 : decode cX6_status 16 = .ok (.aload_n 0, 1) := by decide +kernel
theorem dX6_status_17 : decode cX6_status 17 = .ok (.getfield 47, 3) := by decide +kernel
theorem dX6_status_20 : decode cX6_status 20 = .ok (.iload_n 3, 1) := by decide +kernel
theorem dX6_status_21 : decode cX6_status 21 = .ok (.iaload, 1) := by decide +kernel
theorem dX6_status_22 : decode cX6_status 22 = .ok (.iadd, 1) := by decide +kernel
theorem dX6_status_23 : decode cX6_status 23 = .ok (.istore_n 2, 1) := by decide +kernel
theorem dX6_status_24 : decode cX6_status 24 = .ok (.iinc 3 1, 3) := by decide +kernel
theorem dX6_status_27 : decode cX6_status 27 = .ok (.goto (-18), 3) := by decide +kernel
theorem dX6_status_30 : decode cX6_status 30 = .ok (.iload_n 2, 1) := by decide +kernel
theorem dX6_status_31 : decode cX6_status 31 = .ok (.ireturn, 1) := by decide +kernel
theorem dX6_status_32 : decode cX6_status 32 = .ok (.iload_n 1, 1) := by decide +kernel
theorem dX6_status_33 : decode cX6_status 33 = .ok (.bipush 6, 2) := by decide +kernel
theorem dX6_status_35 : decode cX6_status 35 = .ok (.invokestatic 51, 3) := by decide +kernel
theorem dX6_status_38 : decode cX6_status 38 = .ok (.ifCond .eq 12, 3) := by decide +kernel
theorem dX6_status_41 : decode cX6_status 41 = .ok (.aload_n 0, 1) := by decide +kernel
theorem dX6_status_42 : decode cX6_status 42 = .ok (.getfield 47, 3) := by decide +kernel
theorem dX6_status_45 : decode cX6_status 45 = .ok (.iload_n 1, 1) := by decide +kernel
theorem dX6_status_46 : decode cX6_status 46 = .ok (.iaload, 1) := by decide +kernel
theorem dX6_status_47 : decode cX6_status 47 = .ok (.goto 9, 3) := by decide +kernel
theorem dX6_status_50 : decode cX6_status 50 = .ok (.aload_n 0, 1) := by decide +kernel
theorem dX6_status_51 : decode cX6_status 51 = .ok (.ldc 59, 2) := by decide +kernel
theorem dX6_status_53 : decode cX6_status 53 = .ok (.invokevirtual 60, 3) := by decide +kernel
theorem dX6_status_56 : decode cX6_status 56 = .ok (.ireturn, 1) := by decide +kernel
theorem dX6_finding_0 : decode cX6_finding 0 = .ok (.ldc 59, 2) := by decide +kernel
theorem dX6_finding_2 : decode cX6_finding 2 = .ok (.iload_n 1, 1) := by decide +kernel
theorem dX6_finding_3 : decode cX6_finding 3 = .ok (.isub, 1) := by decide +kernel
theorem dX6_finding_4 : decode cX6_finding 4 = .ok (.istore_n 2, 1) := by decide +kernel
theorem dX6_finding_5 : decode cX6_finding 5 = .ok (.iload_n 2, 1) := by decide +kernel
theorem dX6_finding_6 : decode cX6_finding 6 = .ok (.bipush 6, 2) := by decide +kernel
theorem dX6_finding_8 : decode cX6_finding 8 = .ok (.invokestatic 51, 3) := by decide +kernel
theorem dX6_finding_11 : decode cX6_finding 11 = .ok (.ifCond .eq 13, 3) := by decide +kernel
theorem dX6_finding_14 : decode cX6_finding 14 = .ok (.aload_n 0, 1) := by decide +kernel
theorem dX6_finding_15 : decode cX6_finding 15 = .ok (.getfield 47, 3) := by decide +kernel
theorem dX6_finding_18 : decode cX6_finding 18 = .ok (.iload_n 2, 1) := by decide +kernel
theorem dX6_finding_19 : decode cX6_finding 19 = .ok (.dup2, 1) := by decide +kernel
theorem dX6_finding_20 : decode cX6_finding 20 = .ok (.iaload, 1) := by decide +kernel
theorem dX6_finding_21 : decode cX6_finding 21 = .ok (.iconst 1, 1) := by decide +kernel
theorem dX6_finding_22 : decode cX6_finding 22 = .ok (.iadd, 1) := by decide +kernel
theorem dX6_finding_23 : decode cX6_finding 23 = .ok (.iastore, 1) := by decide +kernel
theorem dX6_finding_24 : decode cX6_finding 24 = .ok (.iload_n 1, 1) := by decide +kernel
theorem dX6_finding_25 : decode cX6_finding 25 = .ok (.ireturn, 1) := by decide +kernel
theorem dX6_lackOf_0 : decode cX6_lackOf 0 = .ok (.iload_n 1, 1) := by decide +kernel
theorem dX6_lackOf_1 : decode cX6_lackOf 1 = .ok (.invokestatic 252, 3) := by decide +kernel
theorem dX6_lackOf_4 : decode cX6_lackOf 4 = .ok (.ifCond .ne 6, 3) := by decide +kernel
theorem dX6_lackOf_7 : decode cX6_lackOf 7 = .ok (.ldc 59, 2) := by decide +kernel
theorem dX6_lackOf_9 : decode cX6_lackOf 9 = .ok (.ireturn, 1) := by decide +kernel
theorem dX6_lackOf_10 : decode cX6_lackOf 10 = .ok (.aload_n 0, 1) := by decide +kernel
theorem dX6_lackOf_11 : decode cX6_lackOf 11 = .ok (.getfield 42, 3) := by decide +kernel
theorem dX6_lackOf_14 : decode cX6_lackOf 14 = .ok (.iload_n 1, 1) := by decide +kernel
theorem dX6_lackOf_15 : decode cX6_lackOf 15 = .ok (.aaload, 1) := by decide +kernel
theorem dX6_lackOf_16 : decode cX6_lackOf 16 = .ok (.invokevirtual 262, 3) := by decide +kernel
theorem dX6_lackOf_19 : decode cX6_lackOf 19 = .ok (.ifCond .eq 8, 3) := by decide +kernel
theorem dX6_lackOf_22 : decode cX6_lackOf 22 = .ok (.ldc 247, 2) := by decide +kernel
theorem dX6_lackOf_24 : decode cX6_lackOf 24 = .ok (.goto 4, 3) := by decide +kernel
theorem dX6_lackOf_27 : decode cX6_lackOf 27 = .ok (.iconst 0, 1) := by decide +kernel
theorem dX6_lackOf_28 : decode cX6_lackOf 28 = .ok (.ireturn, 1) := by decide +kernel
theorem dX6_isSheet_0 : decode cX6_isSheet 0 = .ok (.iload_n 0, 1) := by decide +kernel
theorem dX6_isSheet_1 : decode cX6_isSheet 1 = .ok (.iconst 3, 1) := by decide +kernel
theorem dX6_isSheet_2 : decode cX6_isSheet 2 = .ok (.invokestatic 51, 3) := by decide +kernel
theorem dX6_isSheet_5 : decode cX6_isSheet 5 = .ok (.ireturn, 1) := by decide +kernel
theorem dX6_isWithin_0 : decode cX6_isWithin 0 = .ok (.iload_n 0, 1) := by decide +kernel
theorem dX6_isWithin_1 : decode cX6_isWithin 1 = .ok (.ifCond .lt 12, 3) := by decide +kernel
theorem dX6_isWithin_4 : decode cX6_isWithin 4 = .ok (.iload_n 0, 1) := by decide +kernel
theorem dX6_isWithin_5 : decode cX6_isWithin 5 = .ok (.iload_n 1, 1) := by decide +kernel
theorem dX6_isWithin_6 : decode cX6_isWithin 6 = .ok (.if_icmp .gt 7, 3) := by decide +kernel
theorem dX6_isWithin_9 : decode cX6_isWithin 9 = .ok (.iconst 1, 1) := by decide +kernel
theorem dX6_isWithin_10 : decode cX6_isWithin 10 = .ok (.goto 4, 3) := by decide +kernel
theorem dX6_isWithin_13 : decode cX6_isWithin 13 = .ok (.iconst 0, 1) := by decide +kernel
theorem dX6_isWithin_14 : decode cX6_isWithin 14 = .ok (.ireturn, 1) := by decide +kernel
theorem dX6_isIn_0 : decode cX6_isIn 0 = .ok (.iload_n 1, 1) := by decide +kernel
theorem dX6_isIn_1 : decode cX6_isIn 1 = .ok (.iload_n 0, 1) := by decide +kernel
theorem dX6_isIn_2 : decode cX6_isIn 2 = .ok (.ishr, 1) := by decide +kernel
theorem dX6_isIn_3 : decode cX6_isIn 3 = .ok (.iconst 1, 1) := by decide +kernel
theorem dX6_isIn_4 : decode cX6_isIn 4 = .ok (.iand, 1) := by decide +kernel
theorem dX6_isIn_5 : decode cX6_isIn 5 = .ok (.iconst 1, 1) := by decide +kernel
theorem dX6_isIn_6 : decode cX6_isIn 6 = .ok (.if_icmp .ne 7, 3) := by decide +kernel
theorem dX6_isIn_9 : decode cX6_isIn 9 = .ok (.iconst 1, 1) := by decide +kernel
theorem dX6_isIn_10 : decode cX6_isIn 10 = .ok (.goto 4, 3) := by decide +kernel
theorem dX6_isIn_13 : decode cX6_isIn 13 = .ok (.iconst 0, 1) := by decide +kernel
theorem dX6_isIn_14 : decode cX6_isIn 14 = .ok (.ireturn, 1) := by decide +kernel
theorem dX6_isSaying_0 : decode cX6_isSaying 0 = .ok (.iload_n 0, 1) := by decide +kernel
theorem dX6_isSaying_1 : decode cX6_isSaying 1 = .ok (.invokestatic 281, 3) := by decide +kernel
theorem dX6_isSaying_4 : decode cX6_isSaying 4 = .ok (.iconst 5, 1) := by decide +kernel
theorem dX6_isSaying_5 : decode cX6_isSaying 5 = .ok (.invokestatic 51, 3) := by decide +kernel
theorem dX6_isSaying_8 : decode cX6_isSaying 8 = .ok (.ifCond .eq 21, 3) := by decide +kernel
theorem dX6_isSaying_11 : decode cX6_isSaying 11 = .ok (.iload_n 0, 1) := by decide +kernel
theorem dX6_isSaying_12 : decode cX6_isSaying 12 = .ok (.sipush 1000, 3) := by decide +kernel
theorem dX6_isSaying_15 : decode cX6_isSaying 15 = .ok (.irem, 1) := by decide +kernel
theorem dX6_isSaying_16 : decode cX6_isSaying 16 = .ok (.sipush 159, 3) := by decide +kernel
theorem dX6_isSaying_19 : decode cX6_isSaying 19 = .ok (.invokestatic 51, 3) := by decide +kernel
theorem dX6_isSaying_22 : decode cX6_isSaying 22 = .ok (.ifCond .eq 7, 3) := by decide +kernel
theorem dX6_isSaying_25 : decode cX6_isSaying 25 = .ok (.iconst 1, 1) := by decide +kernel
theorem dX6_isSaying_26 : decode cX6_isSaying 26 = .ok (.goto 4, 3) := by decide +kernel
theorem dX6_isSaying_29 : decode cX6_isSaying 29 = .ok (.iconst 0, 1) := by decide +kernel
theorem dX6_isSaying_30 : decode cX6_isSaying 30 = .ok (.ireturn, 1) := by decide +kernel
theorem dX6_roomOf_0 : decode cX6_roomOf 0 = .ok (.iload_n 0, 1) := by decide +kernel
theorem dX6_roomOf_1 : decode cX6_roomOf 1 = .ok (.sipush 1000, 3) := by decide +kernel
theorem dX6_roomOf_4 : decode cX6_roomOf 4 = .ok (.idiv, 1) := by decide +kernel
theorem dX6_roomOf_5 : decode cX6_roomOf 5 = .ok (.ireturn, 1) := by decide +kernel
theorem dX6_topicOf_0 : decode cX6_topicOf 0 = .ok (.iload_n 0, 1) := by decide +kernel
theorem dX6_topicOf_1 : decode cX6_topicOf 1 = .ok (.sipush 1000, 3) := by decide +kernel
theorem dX6_topicOf_4 : decode cX6_topicOf 4 = .ok (.irem, 1) := by decide +kernel
theorem dX6_topicOf_5 : decode cX6_topicOf 5 = .ok (.bipush 10, 2) := by decide +kernel
theorem dX6_topicOf_7 : decode cX6_topicOf 7 = .ok (.idiv, 1) := by decide +kernel
theorem dX6_topicOf_8 : decode cX6_topicOf 8 = .ok (.ireturn, 1) := by decide +kernel
theorem dX6_loudOf_0 : decode cX6_loudOf 0 = .ok (.iload_n 0, 1) := by decide +kernel
theorem dX6_loudOf_1 : decode cX6_loudOf 1 = .ok (.bipush 10, 2) := by decide +kernel
theorem dX6_loudOf_3 : decode cX6_loudOf 3 = .ok (.irem, 1) := by decide +kernel
theorem dX6_loudOf_4 : decode cX6_loudOf 4 = .ok (.ireturn, 1) := by decide +kernel
theorem dX6_sayingOf_0 : decode cX6_sayingOf 0 = .ok (.sipush 1000, 3) := by decide +kernel
theorem dX6_sayingOf_3 : decode cX6_sayingOf 3 = .ok (.iload_n 0, 1) := by decide +kernel
theorem dX6_sayingOf_4 : decode cX6_sayingOf 4 = .ok (.imul, 1) := by decide +kernel
theorem dX6_sayingOf_5 : decode cX6_sayingOf 5 = .ok (.bipush 10, 2) := by decide +kernel
theorem dX6_sayingOf_7 : decode cX6_sayingOf 7 = .ok (.iload_n 1, 1) := by decide +kernel
theorem dX6_sayingOf_8 : decode cX6_sayingOf 8 = .ok (.imul, 1) := by decide +kernel
theorem dX6_sayingOf_9 : decode cX6_sayingOf 9 = .ok (.iadd, 1) := by decide +kernel
theorem dX6_sayingOf_10 : decode cX6_sayingOf 10 = .ok (.iload_n 2, 1) := by decide +kernel
theorem dX6_sayingOf_11 : decode cX6_sayingOf 11 = .ok (.iadd, 1) := by decide +kernel
theorem dX6_sayingOf_12 : decode cX6_sayingOf 12 = .ok (.ireturn, 1) := by decide +kernel
theorem dX7_init_0 : decode cX7_init 0 = .ok (.aload_n 0, 1) := by decide +kernel
theorem dX7_init_1 : decode cX7_init 1 = .ok (.invokespecial 1, 3) := by decide +kernel
theorem dX7_init_4 : decode cX7_init 4 = .ok (.aload_n 0, 1) := by decide +kernel
theorem dX7_init_5 : decode cX7_init 5 = .ok (.bipush 75, 2) := by decide +kernel
theorem dX7_init_7 : decode cX7_init 7 = .ok (.newarray .int, 2) := by decide +kernel
theorem dX7_init_9 : decode cX7_init 9 = .ok (.putfield 7, 3) := by decide +kernel
theorem dX7_init_12 : decode cX7_init 12 = .ok (.aload_n 0, 1) := by decide +kernel
theorem dX7_init_13 : decode cX7_init 13 = .ok (.bipush 75, 2) := by decide +kernel
theorem dX7_init_15 : decode cX7_init 15 = .ok (.newarray .int, 2) := by decide +kernel
theorem dX7_init_17 : decode cX7_init 17 = .ok (.putfield 13, 3) := by decide +kernel
theorem dX7_init_20 : decode cX7_init 20 = .ok (.aload_n 0, 1) := by decide +kernel
theorem dX7_init_21 : decode cX7_init 21 = .ok (.bipush 75, 2) := by decide +kernel
theorem dX7_init_23 : decode cX7_init 23 = .ok (.newarray .int, 2) := by decide +kernel
theorem dX7_init_25 : decode cX7_init 25 = .ok (.putfield 16, 3) := by decide +kernel
theorem dX7_init_28 : decode cX7_init 28 = .ok (.aload_n 0, 1) := by decide +kernel
theorem dX7_init_29 : decode cX7_init 29 = .ok (.bipush 75, 2) := by decide +kernel
theorem dX7_init_31 : decode cX7_init 31 = .ok (.newarray .int, 2) := by decide +kernel
theorem dX7_init_33 : decode cX7_init 33 = .ok (.putfield 19, 3) := by decide +kernel
theorem dX7_init_36 : decode cX7_init 36 = .ok (.aload_n 0, 1) := by decide +kernel
theorem dX7_init_37 : decode cX7_init 37 = .ok (.bipush 7, 2) := by decide +kernel
theorem dX7_init_39 : decode cX7_init 39 = .ok (.newarray .int, 2) := by decide +kernel
theorem dX7_init_41 : decode cX7_init 41 = .ok (.putfield 22, 3) := by decide +kernel
theorem dX7_init_44 : decode cX7_init 44 = .ok (.aload_n 0, 1) := by decide +kernel
theorem dX7_init_45 : decode cX7_init 45 = .ok (.bipush 120, 2) := by decide +kernel
theorem dX7_init_47 : decode cX7_init 47 = .ok (.newarray .byte, 2) := by decide +kernel
theorem dX7_init_49 : decode cX7_init 49 = .ok (.putfield 25, 3) := by decide +kernel
theorem dX7_init_52 : decode cX7_init 52 = .ok (.aload_n 0, 1) := by decide +kernel
theorem dX7_init_53 : decode cX7_init 53 = .ok (.iconst 4, 1) := by decide +kernel
theorem dX7_init_54 : decode cX7_init 54 = .ok (.newarray .int, 2) := by decide +kernel
theorem dX7_init_56 : decode cX7_init 56 = .ok (.putfield 29, 3) := by decide +kernel
theorem dX7_init_59 : decode cX7_init 59 = .ok (.aload_n 0, 1) := by decide +kernel
theorem dX7_init_60 : decode cX7_init 60 = .ok (.iconst 4, 1) := by decide +kernel
theorem dX7_init_61 : decode cX7_init 61 = .ok (.newarray .int, 2) := by decide +kernel
theorem dX7_init_63 : decode cX7_init 63 = .ok (.putfield 32, 3) := by decide +kernel
theorem dX7_init_66 : decode cX7_init 66 = .ok (.aload_n 0, 1) := by decide +kernel
theorem dX7_init_67 : decode cX7_init 67 = .ok (.sipush 160, 3) := by decide +kernel
theorem dX7_init_70 : decode cX7_init 70 = .ok (.newarray .int, 2) := by decide +kernel
theorem dX7_init_72 : decode cX7_init 72 = .ok (.putfield 35, 3) := by decide +kernel
theorem dX7_init_75 : decode cX7_init 75 = .ok (.aload_n 0, 1) := by decide +kernel
theorem dX7_init_76 : decode cX7_init 76 = .ok (.bipush 40, 2) := by decide +kernel
theorem dX7_init_78 : decode cX7_init 78 = .ok (.newarray .int, 2) := by decide +kernel
theorem dX7_init_80 : decode cX7_init 80 = .ok (.putfield 38, 3) := by decide +kernel
theorem dX7_init_83 : decode cX7_init 83 = .ok (.aload_n 0, 1) := by decide +kernel
theorem dX7_init_84 : decode cX7_init 84 = .ok (.getfield 7, 3) := by decide +kernel
theorem dX7_init_87 : decode cX7_init 87 = .ok (.iconst 2, 1) := by decide +kernel
theorem dX7_init_88 : decode cX7_init 88 = .ok (.iconst 1, 1) := by decide +kernel
theorem dX7_init_89 : decode cX7_init 89 = .ok (.iastore, 1) := by decide +kernel
theorem dX7_init_90 : decode cX7_init 90 = .ok (.iconst 0, 1) := by decide +kernel
theorem dX7_init_91 : decode cX7_init 91 = .ok (.istore_n 1, 1) := by decide +kernel
theorem dX7_init_92 : decode cX7_init 92 = .ok (.iload_n 1, 1) := by decide +kernel
theorem dX7_init_93 : decode cX7_init 93 = .ok (.bipush 6, 2) := by decide +kernel
theorem dX7_init_95 : decode cX7_init 95 = .ok (.if_icmp .ge 29, 3) := by decide +kernel
theorem dX7_init_98 : decode cX7_init 98 = .ok (.aload_n 0, 1) := by decide +kernel
theorem dX7_init_99 : decode cX7_init 99 = .ok (.getfield 7, 3) := by decide +kernel
theorem dX7_init_102 : decode cX7_init 102 = .ok (.iconst 3, 1) := by decide +kernel
theorem dX7_init_103 : decode cX7_init 103 = .ok (.iload_n 1, 1) := by decide +kernel
theorem dX7_init_104 : decode cX7_init 104 = .ok (.iadd, 1) := by decide +kernel
theorem dX7_init_105 : decode cX7_init 105 = .ok (.sipush 1000, 3) := by decide +kernel
theorem dX7_init_108 : decode cX7_init 108 = .ok (.iload_n 1, 1) := by decide +kernel
theorem dX7_init_109 : decode cX7_init 109 = .ok (.imul, 1) := by decide +kernel
theorem dX7_init_110 : decode cX7_init 110 = .ok (.bipush 10, 2) := by decide +kernel
theorem dX7_init_112 : decode cX7_init 112 = .ok (.iload_n 1, 1) := by decide +kernel
theorem dX7_init_113 : decode cX7_init 113 = .ok (.imul, 1) := by decide +kernel
theorem dX7_init_114 : decode cX7_init 114 = .ok (.iadd, 1) := by decide +kernel
theorem dX7_init_115 : decode cX7_init 115 = .ok (.iconst 5, 1) := by decide +kernel
theorem dX7_init_116 : decode cX7_init 116 = .ok (.iadd, 1) := by decide +kernel
theorem dX7_init_117 : decode cX7_init 117 = .ok (.iastore, 1) := by decide +kernel
theorem dX7_init_118 : decode cX7_init 118 = .ok (.iinc 1 1, 3) := by decide +kernel
theorem dX7_init_121 : decode cX7_init 121 = .ok (.goto (-29), 3) := by decide +kernel
theorem dX7_init_124 : decode cX7_init 124 = .ok (.return_, 1) := by decide +kernel
theorem dX7_finds_0 : decode cX7_finds 0 = .ok (.aload_n 0, 1) := by decide +kernel
theorem dX7_finds_1 : decode cX7_finds 1 = .ok (.getfield 22, 3) := by decide +kernel
theorem dX7_finds_4 : decode cX7_finds 4 = .ok (.iload_n 1, 1) := by decide +kernel
theorem dX7_finds_5 : decode cX7_finds 5 = .ok (.dup2, 1) := by decide +kernel
theorem dX7_finds_6 : decode cX7_finds 6 = .ok (.iaload, 1) := by decide +kernel
theorem dX7_finds_7 : decode cX7_finds 7 = .ok (.iconst 1, 1) := by decide +kernel
theorem dX7_finds_8 : decode cX7_finds 8 = .ok (.iadd, 1) := by decide +kernel
theorem dX7_finds_9 : decode cX7_finds 9 = .ok (.iastore, 1) := by decide +kernel
theorem dX7_finds_10 : decode cX7_finds 10 = .ok (.ldc 41, 2) := by decide +kernel
theorem dX7_finds_12 : decode cX7_finds 12 = .ok (.iload_n 1, 1) := by decide +kernel
theorem dX7_finds_13 : decode cX7_finds 13 = .ok (.isub, 1) := by decide +kernel
theorem dX7_finds_14 : decode cX7_finds 14 = .ok (.ireturn, 1) := by decide +kernel
theorem dX7_in_0 : decode cX7_in 0 = .ok (.lload_n 0, 1) := by decide +kernel
theorem dX7_in_1 : decode cX7_in 1 = .ok (.lload_n 2, 1) := by decide +kernel
theorem dX7_in_2 : decode cX7_in 2 = .ok (.lcmp, 1) := by decide +kernel
theorem dX7_in_3 : decode cX7_in 3 = .ok (.ifCond .lt 14, 3) := by decide +kernel
theorem dX7_in_6 : decode cX7_in 6 = .ok (.lload_n 0, 1) := by decide +kernel
theorem dX7_in_7 : decode cX7_in 7 = .ok (.lload 4, 2) := by decide +kernel
theorem dX7_in_9 : decode cX7_in 9 = .ok (.lcmp, 1) := by decide +kernel
theorem dX7_in_10 : decode cX7_in 10 = .ok (.ifCond .gt 7, 3) := by decide +kernel
theorem dX7_in_13 : decode cX7_in 13 = .ok (.iconst 1, 1) := by decide +kernel
theorem dX7_in_14 : decode cX7_in 14 = .ok (.goto 4, 3) := by decide +kernel
theorem dX7_in_17 : decode cX7_in 17 = .ok (.iconst 0, 1) := by decide +kernel
theorem dX7_in_18 : decode cX7_in 18 = .ok (.ireturn, 1) := by decide +kernel
theorem dX7_held_0 : decode cX7_held 0 = .ok (.iload_n 0, 1) := by decide +kernel
theorem dX7_held_1 : decode cX7_held 1 = .ok (.iload_n 1, 1) := by decide +kernel
theorem dX7_held_2 : decode cX7_held 2 = .ok (.if_icmp .ge 7, 3) := by decide +kernel
theorem dX7_held_5 : decode cX7_held 5 = .ok (.iload_n 1, 1) := by decide +kernel
theorem dX7_held_6 : decode cX7_held 6 = .ok (.goto 13, 3) := by decide +kernel
theorem dX7_held_9 : decode cX7_held 9 = .ok (.iload_n 0, 1) := by decide +kernel
theorem dX7_held_10 : decode cX7_held 10 = .ok (.iload_n 2, 1) := by decide +kernel
theorem dX7_held_11 : decode cX7_held 11 = .ok (.if_icmp .le 7, 3) := by decide +kernel
theorem dX7_held_14 : decode cX7_held 14 = .ok (.iload_n 2, 1) := by decide +kernel
theorem dX7_held_15 : decode cX7_held 15 = .ok (.goto 4, 3) := by decide +kernel
theorem dX7_held_18 : decode cX7_held 18 = .ok (.iload_n 0, 1) := by decide +kernel
theorem dX7_held_19 : decode cX7_held 19 = .ok (.ireturn, 1) := by decide +kernel
theorem dX7_copies_0 : decode cX7_copies 0 = .ok (.iconst 0, 1) := by decide +kernel
theorem dX7_copies_1 : decode cX7_copies 1 = .ok (.istore_n 2, 1) := by decide +kernel
theorem dX7_copies_2 : decode cX7_copies 2 = .ok (.iload_n 2, 1) := by decide +kernel
theorem dX7_copies_3 : decode cX7_copies 3 = .ok (.bipush 75, 2) := by decide +kernel
theorem dX7_copies_5 : decode cX7_copies 5 = .ok (.if_icmp .ge 15, 3) := by decide +kernel
theorem dX7_copies_8 : decode cX7_copies 8 = .ok (.aload_n 1, 1) := by decide +kernel
theorem dX7_copies_9 : decode cX7_copies 9 = .ok (.iload_n 2, 1) := by decide +kernel
theorem dX7_copies_10 : decode cX7_copies 10 = .ok (.aload_n 0, 1) := by decide +kernel
theorem dX7_copies_11 : decode cX7_copies 11 = .ok (.iload_n 2, 1) := by decide +kernel
theorem dX7_copies_12 : decode cX7_copies 12 = .ok (.iaload, 1) := by decide +kernel
theorem dX7_copies_13 : decode cX7_copies 13 = .ok (.iastore, 1) := by decide +kernel
theorem dX7_copies_14 : decode cX7_copies 14 = .ok (.iinc 2 1, 3) := by decide +kernel
theorem dX7_copies_17 : decode cX7_copies 17 = .ok (.goto (-15), 3) := by decide +kernel
theorem dX7_copies_20 : decode cX7_copies 20 = .ok (.return_, 1) := by decide +kernel
theorem dX7_isGlove_0 : decode cX7_isGlove 0 = .ok (.iload_n 1, 1) := by decide +kernel
theorem dX7_isGlove_1 : decode cX7_isGlove 1 = .ok (.i2l, 1) := by decide +kernel
theorem dX7_isGlove_2 : decode cX7_isGlove 2 = .ok (.lconst 0, 1) := by decide +kernel
theorem dX7_isGlove_3 : decode cX7_isGlove 3 = .ok (.aload_n 0, 1) := by decide +kernel
theorem dX7_isGlove_4 : decode cX7_isGlove 4 = .ok (.getfield 7, 3) := by decide +kernel
theorem dX7_isGlove_7 : decode cX7_isGlove 7 = .ok (.iconst 0, 1) := by decide +kernel
theorem dX7_isGlove_8 : decode cX7_isGlove 8 = .ok (.iaload, 1) := by decide +kernel
theorem dX7_isGlove_9 : decode cX7_isGlove 9 = .ok (.iconst 1, 1) := by decide +kernel
theorem dX7_isGlove_10 : decode cX7_isGlove 10 = .ok (.isub, 1) := by decide +kernel
theorem dX7_isGlove_11 : decode cX7_isGlove 11 = .ok (.i2l, 1) := by decide +kernel
theorem dX7_isGlove_12 : decode cX7_isGlove 12 = .ok (.invokestatic 42, 3) := by decide +kernel
theorem dX7_isGlove_15 : decode cX7_isGlove 15 = .ok (.ireturn, 1) := by decide +kernel
theorem dX7_isTopic_0 : decode cX7_isTopic 0 = .ok (.iload_n 0, 1) := by decide +kernel
theorem dX7_isTopic_1 : decode cX7_isTopic 1 = .ok (.i2l, 1) := by decide +kernel
theorem dX7_isTopic_2 : decode cX7_isTopic 2 = .ok (.lconst 0, 1) := by decide +kernel
theorem dX7_isTopic_3 : decode cX7_isTopic 3 = .ok (.ldc2_w 46, 3) := by decide +kernel
theorem dX7_isTopic_6 : decode cX7_isTopic 6 = .ok (.invokestatic 42, 3) := by decide +kernel
theorem dX7_isTopic_9 : decode cX7_isTopic 9 = .ok (.ireturn, 1) := by decide +kernel
theorem dX7_areTopics_0 : decode cX7_areTopics 0 = .ok (.iload_n 0, 1) := by decide +kernel
theorem dX7_areTopics_1 : decode cX7_areTopics 1 = .ok (.i2l, 1) := by decide +kernel
theorem dX7_areTopics_2 : decode cX7_areTopics 2 = .ok (.lconst 0, 1) := by decide +kernel
theorem dX7_areTopics_3 : decode cX7_areTopics 3 = .ok (.ldc2_w 48, 3) := by decide +kernel
theorem dX7_areTopics_6 : decode cX7_areTopics 6 = .ok (.invokestatic 42, 3) := by decide +kernel
theorem dX7_areTopics_9 : decode cX7_areTopics 9 = .ok (.ireturn, 1) := by decide +kernel
theorem dX7_isPlace_0 : decode cX7_isPlace 0 = .ok (.iload_n 0, 1) := by decide +kernel
theorem dX7_isPlace_1 : decode cX7_isPlace 1 = .ok (.i2l, 1) := by decide +kernel
theorem dX7_isPlace_2 : decode cX7_isPlace 2 = .ok (.lconst 0, 1) := by decide +kernel
theorem dX7_isPlace_3 : decode cX7_isPlace 3 = .ok (.ldc2_w 50, 3) := by decide +kernel
theorem dX7_isPlace_6 : decode cX7_isPlace 6 = .ok (.invokestatic 42, 3) := by decide +kernel
theorem dX7_isPlace_9 : decode cX7_isPlace 9 = .ok (.ireturn, 1) := by decide +kernel
theorem dX7_isSaying_0 : decode cX7_isSaying 0 = .ok (.iload_n 0, 1) := by decide +kernel
theorem dX7_isSaying_1 : decode cX7_isSaying 1 = .ok (.i2l, 1) := by decide +kernel
theorem dX7_isSaying_2 : decode cX7_isSaying 2 = .ok (.lconst 0, 1) := by decide +kernel
theorem dX7_isSaying_3 : decode cX7_isSaying 3 = .ok (.ldc2_w 52, 3) := by decide +kernel
theorem dX7_isSaying_6 : decode cX7_isSaying 6 = .ok (.invokestatic 42, 3) := by decide +kernel
theorem dX7_isSaying_9 : decode cX7_isSaying 9 = .ok (.ifCond .eq 18, 3) := by decide +kernel
theorem dX7_isSaying_12 : decode cX7_isSaying 12 = .ok (.iload_n 0, 1) := by decide +kernel
theorem dX7_isSaying_13 : decode cX7_isSaying 13 = .ok (.sipush 1000, 3) := by decide +kernel
theorem dX7_isSaying_16 : decode cX7_isSaying 16 = .ok (.irem, 1) := by decide +kernel
theorem dX7_isSaying_17 : decode cX7_isSaying 17 = .ok (.sipush 160, 3) := by decide +kernel
theorem dX7_isSaying_20 : decode cX7_isSaying 20 = .ok (.if_icmp .ge 7, 3) := by decide +kernel
theorem dX7_isSaying_23 : decode cX7_isSaying 23 = .ok (.iconst 1, 1) := by decide +kernel
theorem dX7_isSaying_24 : decode cX7_isSaying 24 = .ok (.goto 4, 3) := by decide +kernel
theorem dX7_isSaying_27 : decode cX7_isSaying 27 = .ok (.iconst 0, 1) := by decide +kernel
theorem dX7_isSaying_28 : decode cX7_isSaying 28 = .ok (.ireturn, 1) := by decide +kernel
theorem dX7_its_0 : decode cX7_its 0 = .ok (.aload_n 0, 1) := by decide +kernel
theorem dX7_its_1 : decode cX7_its 1 = .ok (.getfield 7, 3) := by decide +kernel
theorem dX7_its_4 : decode cX7_its 4 = .ok (.bipush 9, 2) := by decide +kernel
theorem dX7_its_6 : decode cX7_its 6 = .ok (.bipush 8, 2) := by decide +kernel
theorem dX7_its_8 : decode cX7_its 8 = .ok (.iload_n 2, 1) := by decide +kernel
theorem dX7_its_9 : decode cX7_its 9 = .ok (.imul, 1) := by decide +kernel
theorem dX7_its_10 : decode cX7_its 10 = .ok (.iadd, 1) := by decide +kernel
theorem dX7_its_11 : decode cX7_its 11 = .ok (.iload_n 1, 1) := by decide +kernel
theorem dX7_its_12 : decode cX7_its 12 = .ok (.iadd, 1) := by decide +kernel
theorem dX7_its_13 : decode cX7_its 13 = .ok (.iaload, 1) := by decide +kernel
theorem dX7_its_14 : decode cX7_its 14 = .ok (.ireturn, 1) := by decide +kernel
theorem dX7_sets_0 : decode cX7_sets 0 = .ok (.aload_n 0, 1) := by decide +kernel
theorem dX7_sets_1 : decode cX7_sets 1 = .ok (.getfield 7, 3) := by decide +kernel
theorem dX7_sets_4 : decode cX7_sets 4 = .ok (.bipush 9, 2) := by decide +kernel
theorem dX7_sets_6 : decode cX7_sets 6 = .ok (.bipush 8, 2) := by decide +kernel
theorem dX7_sets_8 : decode cX7_sets 8 = .ok (.iload_n 2, 1) := by decide +kernel
theorem dX7_sets_9 : decode cX7_sets 9 = .ok (.imul, 1) := by decide +kernel
theorem dX7_sets_10 : decode cX7_sets 10 = .ok (.iadd, 1) := by decide +kernel
theorem dX7_sets_11 : decode cX7_sets 11 = .ok (.iload_n 1, 1) := by decide +kernel
theorem dX7_sets_12 : decode cX7_sets 12 = .ok (.iadd, 1) := by decide +kernel
theorem dX7_sets_13 : decode cX7_sets 13 = .ok (.iload_n 3, 1) := by decide +kernel
theorem dX7_sets_14 : decode cX7_sets 14 = .ok (.iastore, 1) := by decide +kernel
theorem dX7_sets_15 : decode cX7_sets 15 = .ok (.return_, 1) := by decide +kernel
theorem dX7_becomes_0 : decode cX7_becomes 0 = .ok (.aload_n 0, 1) := by decide +kernel
theorem dX7_becomes_1 : decode cX7_becomes 1 = .ok (.getfield 7, 3) := by decide +kernel
theorem dX7_becomes_4 : decode cX7_becomes 4 = .ok (.iload_n 1, 1) := by decide +kernel
theorem dX7_becomes_5 : decode cX7_becomes 5 = .ok (.iaload, 1) := by decide +kernel
theorem dX7_becomes_6 : decode cX7_becomes 6 = .ok (.istore_n 3, 1) := by decide +kernel
theorem dX7_becomes_7 : decode cX7_becomes 7 = .ok (.aload_n 0, 1) := by decide +kernel
theorem dX7_becomes_8 : decode cX7_becomes 8 = .ok (.getfield 7, 3) := by decide +kernel
theorem dX7_becomes_11 : decode cX7_becomes 11 = .ok (.iload_n 1, 1) := by decide +kernel
theorem dX7_becomes_12 : decode cX7_becomes 12 = .ok (.iload_n 2, 1) := by decide +kernel
theorem dX7_becomes_13 : decode cX7_becomes 13 = .ok (.iastore, 1) := by decide +kernel
theorem dX7_becomes_14 : decode cX7_becomes 14 = .ok (.iload_n 3, 1) := by decide +kernel
theorem dX7_becomes_15 : decode cX7_becomes 15 = .ok (.ireturn, 1) := by decide +kernel
theorem dX7_ones_0 : decode cX7_ones 0 = .ok (.iconst 0, 1) := by decide +kernel
theorem dX7_ones_1 : decode cX7_ones 1 = .ok (.istore_n 1, 1) := by decide +kernel
theorem dX7_ones_2 : decode cX7_ones 2 = .ok (.iconst 0, 1) := by decide +kernel
theorem dX7_ones_3 : decode cX7_ones 3 = .ok (.istore_n 2, 1) := by decide +kernel
theorem dX7_ones_4 : decode cX7_ones 4 = .ok (.iload_n 2, 1) := by decide +kernel
theorem dX7_ones_5 : decode cX7_ones 5 = .ok (.bipush 16, 2) := by decide +kernel
theorem dX7_ones_7 : decode cX7_ones 7 = .ok (.if_icmp .ge 17, 3) := by decide +kernel
theorem dX7_ones_10 : decode cX7_ones 10 = .ok (.iload_n 1, 1) := by decide +kernel
theorem dX7_ones_11 : decode cX7_ones 11 = .ok (.iload_n 0, 1) := by decide +kernel
theorem dX7_ones_12 : decode cX7_ones 12 = .ok (.iload_n 2, 1) := by decide +kernel
theorem dX7_ones_13 : decode cX7_ones 13 = .ok (.ishr, 1) := by decide +kernel
theorem dX7_ones_14 : decode cX7_ones 14 = .ok (.iconst 1, 1) := by decide +kernel
theorem dX7_ones_15 : decode cX7_ones 15 = .ok (.iand, 1) := by decide +kernel
theorem dX7_ones_16 : decode cX7_ones 16 = .ok (.iadd, 1) := by decide +kernel
theorem dX7_ones_17 : decode cX7_ones 17 = .ok (.istore_n 1, 1) := by decide +kernel
theorem dX7_ones_18 : decode cX7_ones 18 = .ok (.iinc 2 1, 3) := by decide +kernel
theorem dX7_ones_21 : decode cX7_ones 21 = .ok (.goto (-17), 3) := by decide +kernel
theorem dX7_ones_24 : decode cX7_ones 24 = .ok (.iload_n 1, 1) := by decide +kernel
theorem dX7_ones_25 : decode cX7_ones 25 = .ok (.ireturn, 1) := by decide +kernel
theorem dX7_isIn_0 : decode cX7_isIn 0 = .ok (.aload_n 0, 1) := by decide +kernel
theorem dX7_isIn_1 : decode cX7_isIn 1 = .ok (.getfield 54, 3) := by decide +kernel
theorem dX7_isIn_4 : decode cX7_isIn 4 = .ok (.iload_n 1, 1) := by decide +kernel
theorem dX7_isIn_5 : decode cX7_isIn 5 = .ok (.ishr, 1) := by decide +kernel
theorem dX7_isIn_6 : decode cX7_isIn 6 = .ok (.iconst 1, 1) := by decide +kernel
theorem dX7_isIn_7 : decode cX7_isIn 7 = .ok (.iand, 1) := by decide +kernel
theorem dX7_isIn_8 : decode cX7_isIn 8 = .ok (.ifCond .ne 17, 3) := by decide +kernel
theorem dX7_isIn_11 : decode cX7_isIn 11 = .ok (.aload_n 0, 1) := by decide +kernel
theorem dX7_isIn_12 : decode cX7_isIn 12 = .ok (.iload_n 1, 1) := by decide +kernel
theorem dX7_isIn_13 : decode cX7_isIn 13 = .ok (.iconst 1, 1) := by decide +kernel
theorem dX7_isIn_14 : decode cX7_isIn 14 = .ok (.invokevirtual 58, 3) := by decide +kernel
theorem dX7_isIn_17 : decode cX7_isIn 17 = .ok (.iload_n 2, 1) := by decide +kernel
theorem dX7_isIn_18 : decode cX7_isIn 18 = .ok (.if_icmp .ne 7, 3) := by decide +kernel
theorem dX7_isIn_21 : decode cX7_isIn 21 = .ok (.iconst 1, 1) := by decide +kernel
theorem dX7_isIn_22 : decode cX7_isIn 22 = .ok (.goto 4, 3) := by decide +kernel
theorem dX7_isIn_25 : decode cX7_isIn 25 = .ok (.iconst 0, 1) := by decide +kernel
theorem dX7_isIn_26 : decode cX7_isIn 26 = .ok (.ireturn, 1) := by decide +kernel
theorem dX7_hasOther_0 : decode cX7_hasOther 0 = .ok (.iconst 0, 1) := by decide +kernel
theorem dX7_hasOther_1 : decode cX7_hasOther 1 = .ok (.istore_n 2, 1) := by decide +kernel
theorem dX7_hasOther_2 : decode cX7_hasOther 2 = .ok (.iload_n 2, 1) := by decide +kernel
theorem dX7_hasOther_3 : decode cX7_hasOther 3 = .ok (.aload_n 0, 1) := by decide +kernel
theorem dX7_hasOther_4 : decode cX7_hasOther 4 = .ok (.getfield 7, 3) := by decide +kernel
theorem dX7_hasOther_7 : decode cX7_hasOther 7 = .ok (.iconst 0, 1) := by decide +kernel
theorem dX7_hasOther_8 : decode cX7_hasOther 8 = .ok (.iaload, 1) := by decide +kernel
theorem dX7_hasOther_9 : decode cX7_hasOther 9 = .ok (.if_icmp .ge 30, 3) := by decide +kernel
theorem dX7_hasOther_12 : decode cX7_hasOther 12 = .ok (.iload_n 2, 1) := by decide +kernel
theorem dX7_hasOther_13 : decode cX7_hasOther 13 = .ok (.iload_n 1, 1) := by decide +kernel
theorem dX7_hasOther_14 : decode cX7_hasOther 14 = .ok (.if_icmp .eq 19, 3) := by decide +kernel
theorem dX7_hasOther_17 : decode cX7_hasOther 17 = .ok (.aload_n 0, 1) := by decide +kernel
theorem dX7_hasOther_18 : decode cX7_hasOther 18 = .ok (.iload_n 2, 1) := by decide +kernel
theorem dX7_hasOther_19 : decode cX7_hasOther 19 = .ok (.aload_n 0, 1) := by decide +kernel
theorem dX7_hasOther_20 : decode cX7_hasOther 20 = .ok (.iload_n 1, 1) := by decide +kernel
theorem dX7_hasOther_21 : decode cX7_hasOther 21 = .ok (.iconst 1, 1) := by decide +kernel
theorem dX7_hasOther_22 : decode cX7_hasOther 22 = .ok (.invokevirtual 58, 3) := by decide +kernel
theorem dX7_hasOther_25 : decode cX7_hasOther 25 = .ok (.invokevirtual 62, 3) := by decide +kernel
theorem dX7_hasOther_28 : decode cX7_hasOther 28 = .ok (.ifCond .eq 5, 3) := by decide +kernel
theorem dX7_hasOther_31 : decode cX7_hasOther 31 = .ok (.iconst 1, 1) := by decide +kernel
theorem dX7_hasOther_32 : decode cX7_hasOther 32 = .ok (.ireturn, 1) := by decide +kernel
theorem dX7_hasOther_33 : decode cX7_hasOther 33 = .ok (.iinc 2 1, 3) := by decide +kernel
theorem dX7_hasOther_36 : decode cX7_hasOther 36 = .ok (.goto (-34), 3) := by decide +kernel
theorem dX7_hasOther_39 : decode cX7_hasOther 39 = .ok (.iconst 0, 1) := by decide +kernel
theorem dX7_hasOther_40 : decode cX7_hasOther 40 = .ok (.ireturn, 1) := by decide +kernel
theorem dX7_needs_0 : decode cX7_needs 0 = .ok (.bipush 10, 2) := by decide +kernel
theorem dX7_needs_2 : decode cX7_needs 2 = .ok (.aload_n 0, 1) := by decide +kernel
theorem dX7_needs_3 : decode cX7_needs 3 = .ok (.iload_n 1, 1) := by decide +kernel
theorem dX7_needs_4 : decode cX7_needs 4 = .ok (.iconst 2, 1) := by decide +kernel
theorem dX7_needs_5 : decode cX7_needs 5 = .ok (.invokevirtual 58, 3) := by decide +kernel
theorem dX7_needs_8 : decode cX7_needs 8 = .ok (.isub, 1) := by decide +kernel
theorem dX7_needs_9 : decode cX7_needs 9 = .ok (.istore_n 2, 1) := by decide +kernel
theorem dX7_needs_10 : decode cX7_needs 10 = .ok (.iload_n 2, 1) := by decide +kernel
theorem dX7_needs_11 : decode cX7_needs 11 = .ok (.iconst 2, 1) := by decide +kernel
theorem dX7_needs_12 : decode cX7_needs 12 = .ok (.isub, 1) := by decide +kernel
theorem dX7_needs_13 : decode cX7_needs 13 = .ok (.iconst 0, 1) := by decide +kernel
theorem dX7_needs_14 : decode cX7_needs 14 = .ok (.bipush 10, 2) := by decide +kernel
theorem dX7_needs_16 : decode cX7_needs 16 = .ok (.invokestatic 66, 3) := by decide +kernel
theorem dX7_needs_19 : decode cX7_needs 19 = .ok (.istore_n 3, 1) := by decide +kernel
theorem dX7_needs_20 : decode cX7_needs 20 = .ok (.aload_n 0, 1) := by decide +kernel
theorem dX7_needs_21 : decode cX7_needs 21 = .ok (.iload_n 1, 1) := by decide +kernel
theorem dX7_needs_22 : decode cX7_needs 22 = .ok (.iconst 0, 1) := by decide +kernel
theorem dX7_needs_23 : decode cX7_needs 23 = .ok (.invokevirtual 58, 3) := by decide +kernel
theorem dX7_needs_26 : decode cX7_needs 26 = .ok (.tableswitch 73 1 6 #[38, 40, 44, 54, 57, 59], 38) := by decide +kernel
theorem dX7_needs_64 : decode cX7_needs 64 = .ok (.iload_n 3, 1) := by decide +kernel
theorem dX7_needs_65 : decode cX7_needs 65 = .ok (.ireturn, 1) := by decide +kernel
theorem dX7_needs_66 : decode cX7_needs 66 = .ok (.iload_n 2, 1) := by decide +kernel
theorem dX7_needs_67 : decode cX7_needs 67 = .ok (.iconst 3, 1) := by decide +kernel
theorem dX7_needs_68 : decode cX7_needs 68 = .ok (.iadd, 1) := by decide +kernel
theorem dX7_needs_69 : decode cX7_needs 69 = .ok (.ireturn, 1) := by decide +kernel
theorem dX7_needs_70 : decode cX7_needs 70 = .ok (.iload_n 2, 1) := by decide +kernel
theorem dX7_needs_71 : decode cX7_needs 71 = .ok (.iconst 1, 1) := by decide +kernel
theorem dX7_needs_72 : decode cX7_needs 72 = .ok (.isub, 1) := by decide +kernel
theorem dX7_needs_73 : decode cX7_needs 73 = .ok (.iconst 0, 1) := by decide +kernel
theorem dX7_needs_74 : decode cX7_needs 74 = .ok (.bipush 10, 2) := by decide +kernel
theorem dX7_needs_76 : decode cX7_needs 76 = .ok (.invokestatic 66, 3) := by decide +kernel
theorem dX7_needs_79 : decode cX7_needs 79 = .ok (.ireturn, 1) := by decide +kernel
theorem dX7_needs_80 : decode cX7_needs 80 = .ok (.bipush 99, 2) := by decide +kernel
theorem dX7_needs_82 : decode cX7_needs 82 = .ok (.ireturn, 1) := by decide +kernel
theorem dX7_needs_83 : decode cX7_needs 83 = .ok (.iconst 0, 1) := by decide +kernel
theorem dX7_needs_84 : decode cX7_needs 84 = .ok (.ireturn, 1) := by decide +kernel
theorem dX7_needs_85 : decode cX7_needs 85 = .ok (.aload_n 0, 1) := by decide +kernel
theorem dX7_needs_86 : decode cX7_needs 86 = .ok (.iload_n 1, 1) := by decide +kernel
theorem dX7_needs_87 : decode cX7_needs 87 = .ok (.invokevirtual 70, 3) := by decide +kernel
theorem dX7_needs_90 : decode cX7_needs 90 = .ok (.ifCond .eq 7, 3) := by decide +kernel
theorem dX7_needs_93 : decode cX7_needs 93 = .ok (.iconst 1, 1) := by decide +kernel
theorem dX7_needs_94 : decode cX7_needs 94 = .ok (.goto 4, 3) := by decide +kernel
theorem dX7_needs_97 : decode cX7_needs 97 = .ok (.iload_n 3, 1) := by decide +kernel
theorem dX7_needs_98 : decode cX7_needs 98 = .ok (.ireturn, 1) := by decide +kernel
theorem dX7_needs_99 : decode cX7_needs 99 = .ok (.iload_n 2, 1) := by decide +kernel
theorem dX7_needs_100 : decode cX7_needs 100 = .ok (.ireturn, 1) := by decide +kernel
theorem dX7_hushes_0 : decode cX7_hushes 0 = .ok (.aload_n 0, 1) := by decide +kernel
theorem dX7_hushes_1 : decode cX7_hushes 1 = .ok (.iload_n 1, 1) := by decide +kernel
theorem dX7_hushes_2 : decode cX7_hushes 2 = .ok (.iconst 0, 1) := by decide +kernel
theorem dX7_hushes_3 : decode cX7_hushes 3 = .ok (.invokevirtual 58, 3) := by decide +kernel
theorem dX7_hushes_6 : decode cX7_hushes 6 = .ok (.tableswitch 59 1 6 #[38, 59, 38, 59, 42, 40], 38) := by decide +kernel
theorem dX7_hushes_44 : decode cX7_hushes 44 = .ok (.iconst 1, 1) := by decide +kernel
theorem dX7_hushes_45 : decode cX7_hushes 45 = .ok (.ireturn, 1) := by decide +kernel
theorem dX7_hushes_46 : decode cX7_hushes 46 = .ok (.iconst 2, 1) := by decide +kernel
theorem dX7_hushes_47 : decode cX7_hushes 47 = .ok (.ireturn, 1) := by decide +kernel
theorem dX7_hushes_48 : decode cX7_hushes 48 = .ok (.aload_n 0, 1) := by decide +kernel
theorem dX7_hushes_49 : decode cX7_hushes 49 = .ok (.iload_n 1, 1) := by decide +kernel
theorem dX7_hushes_50 : decode cX7_hushes 50 = .ok (.iconst 4, 1) := by decide +kernel
theorem dX7_hushes_51 : decode cX7_hushes 51 = .ok (.invokevirtual 58, 3) := by decide +kernel
theorem dX7_hushes_54 : decode cX7_hushes 54 = .ok (.bipush 100, 2) := by decide +kernel
theorem dX7_hushes_56 : decode cX7_hushes 56 = .ok (.if_icmp .lt 7, 3) := by decide +kernel
theorem dX7_hushes_59 : decode cX7_hushes 59 = .ok (.iconst 1, 1) := by decide +kernel
theorem dX7_hushes_60 : decode cX7_hushes 60 = .ok (.goto 4, 3) := by decide +kernel
theorem dX7_hushes_63 : decode cX7_hushes 63 = .ok (.iconst 0, 1) := by decide +kernel
theorem dX7_hushes_64 : decode cX7_hushes 64 = .ok (.ireturn, 1) := by decide +kernel
theorem dX7_hushes_65 : decode cX7_hushes 65 = .ok (.iconst 0, 1) := by decide +kernel
theorem dX7_hushes_66 : decode cX7_hushes 66 = .ok (.ireturn, 1) := by decide +kernel
theorem dX7_stays_0 : decode cX7_stays 0 = .ok (.aload_n 0, 1) := by decide +kernel
theorem dX7_stays_1 : decode cX7_stays 1 = .ok (.iload_n 1, 1) := by decide +kernel
theorem dX7_stays_2 : decode cX7_stays 2 = .ok (.iconst 0, 1) := by decide +kernel
theorem dX7_stays_3 : decode cX7_stays 3 = .ok (.invokevirtual 58, 3) := by decide +kernel
theorem dX7_stays_6 : decode cX7_stays 6 = .ok (.tableswitch 45 1 6 #[38, 40, 40, 43, 43, 38], 38) := by decide +kernel
theorem dX7_stays_44 : decode cX7_stays 44 = .ok (.iconst 5, 1) := by decide +kernel
theorem dX7_stays_45 : decode cX7_stays 45 = .ok (.ireturn, 1) := by decide +kernel
theorem dX7_stays_46 : decode cX7_stays 46 = .ok (.bipush 14, 2) := by decide +kernel
theorem dX7_stays_48 : decode cX7_stays 48 = .ok (.ireturn, 1) := by decide +kernel
theorem dX7_stays_49 : decode cX7_stays 49 = .ok (.iconst 0, 1) := by decide +kernel
theorem dX7_stays_50 : decode cX7_stays 50 = .ok (.ireturn, 1) := by decide +kernel
theorem dX7_stays_51 : decode cX7_stays 51 = .ok (.bipush 7, 2) := by decide +kernel
theorem dX7_stays_53 : decode cX7_stays 53 = .ok (.ireturn, 1) := by decide +kernel
theorem dX7_keeps_0 : decode cX7_keeps 0 = .ok (.aload_n 0, 1) := by decide +kernel
theorem dX7_keeps_1 : decode cX7_keeps 1 = .ok (.iload_n 1, 1) := by decide +kernel
theorem dX7_keeps_2 : decode cX7_keeps 2 = .ok (.iconst 0, 1) := by decide +kernel
theorem dX7_keeps_3 : decode cX7_keeps 3 = .ok (.invokevirtual 58, 3) := by decide +kernel
theorem dX7_keeps_6 : decode cX7_keeps 6 = .ok (.tableswitch 49 1 6 #[38, 44, 44, 44, 46, 41], 38) := by decide +kernel
theorem dX7_keeps_44 : decode cX7_keeps 44 = .ok (.bipush 8, 2) := by decide +kernel
theorem dX7_keeps_46 : decode cX7_keeps 46 = .ok (.ireturn, 1) := by decide +kernel
theorem dX7_keeps_47 : decode cX7_keeps 47 = .ok (.bipush 10, 2) := by decide +kernel
theorem dX7_keeps_49 : decode cX7_keeps 49 = .ok (.ireturn, 1) := by decide +kernel
theorem dX7_keeps_50 : decode cX7_keeps 50 = .ok (.iconst 3, 1) := by decide +kernel
theorem dX7_keeps_51 : decode cX7_keeps 51 = .ok (.ireturn, 1) := by decide +kernel
theorem dX7_keeps_52 : decode cX7_keeps 52 = .ok (.bipush 16, 2) := by decide +kernel
theorem dX7_keeps_54 : decode cX7_keeps 54 = .ok (.ireturn, 1) := by decide +kernel
theorem dX7_keeps_55 : decode cX7_keeps 55 = .ok (.bipush 6, 2) := by decide +kernel
theorem dX7_keeps_57 : decode cX7_keeps 57 = .ok (.ireturn, 1) := by decide +kernel
theorem dX7_hushIn_0 : decode cX7_hushIn 0 = .ok (.iconst 0, 1) := by decide +kernel
theorem dX7_hushIn_1 : decode cX7_hushIn 1 = .ok (.istore_n 2, 1) := by decide +kernel
theorem dX7_hushIn_2 : decode cX7_hushIn 2 = .ok (.iconst 0, 1) := by decide +kernel
theorem dX7_hushIn_3 : decode cX7_hushIn 3 = .ok (.istore_n 3, 1) := by decide +kernel
theorem dX7_hushIn_4 : decode cX7_hushIn 4 = .ok (.iload_n 3, 1) := by decide +kernel
theorem dX7_hushIn_5 : decode cX7_hushIn 5 = .ok (.aload_n 0, 1) := by decide +kernel
theorem dX7_hushIn_6 : decode cX7_hushIn 6 = .ok (.getfield 7, 3) := by decide +kernel
theorem dX7_hushIn_9 : decode cX7_hushIn 9 = .ok (.iconst 0, 1) := by decide +kernel
theorem dX7_hushIn_10 : decode cX7_hushIn 10 = .ok (.iaload, 1) := by decide +kernel
theorem dX7_hushIn_11 : decode cX7_hushIn 11 = .ok (.if_icmp .ge 30, 3) := by decide +kernel
theorem dX7_hushIn_14 : decode cX7_hushIn 14 = .ok (.iload_n 2, 1) := by decide +kernel
theorem dX7_hushIn_15 : decode cX7_hushIn 15 = .ok (.aload_n 0, 1) := by decide +kernel
theorem dX7_hushIn_16 : decode cX7_hushIn 16 = .ok (.iload_n 3, 1) := by decide +kernel
theorem dX7_hushIn_17 : decode cX7_hushIn 17 = .ok (.iload_n 1, 1) := by decide +kernel
theorem dX7_hushIn_18 : decode cX7_hushIn 18 = .ok (.invokevirtual 62, 3) := by decide +kernel
theorem dX7_hushIn_21 : decode cX7_hushIn 21 = .ok (.ifCond .eq 11, 3) := by decide +kernel
theorem dX7_hushIn_24 : decode cX7_hushIn 24 = .ok (.aload_n 0, 1) := by decide +kernel
theorem dX7_hushIn_25 : decode cX7_hushIn 25 = .ok (.iload_n 3, 1) := by decide +kernel
theorem dX7_hushIn_26 : decode cX7_hushIn 26 = .ok (.invokevirtual 74, 3) := by decide +kernel
theorem dX7_hushIn_29 : decode cX7_hushIn 29 = .ok (.goto 4, 3) := by decide +kernel
theorem dX7_hushIn_32 : decode cX7_hushIn 32 = .ok (.iconst 0, 1) := by decide +kernel
theorem dX7_hushIn_33 : decode cX7_hushIn 33 = .ok (.iadd, 1) := by decide +kernel
theorem dX7_hushIn_34 : decode cX7_hushIn 34 = .ok (.istore_n 2, 1) := by decide +kernel
theorem dX7_hushIn_35 : decode cX7_hushIn 35 = .ok (.iinc 3 1, 3) := by decide +kernel
theorem dX7_hushIn_38 : decode cX7_hushIn 38 = .ok (.goto (-34), 3) := by decide +kernel
theorem dX7_hushIn_41 : decode cX7_hushIn 41 = .ok (.iload_n 2, 1) := by decide +kernel
theorem dX7_hushIn_42 : decode cX7_hushIn 42 = .ok (.ireturn, 1) := by decide +kernel
theorem dX7_hearers_0 : decode cX7_hearers 0 = .ok (.iload_n 1, 1) := by decide +kernel
theorem dX7_hearers_1 : decode cX7_hearers 1 = .ok (.sipush 1000, 3) := by decide +kernel
theorem dX7_hearers_4 : decode cX7_hearers 4 = .ok (.idiv, 1) := by decide +kernel
theorem dX7_hearers_5 : decode cX7_hearers 5 = .ok (.istore_n 2, 1) := by decide +kernel
theorem dX7_hearers_6 : decode cX7_hearers 6 = .ok (.iload_n 1, 1) := by decide +kernel
theorem dX7_hearers_7 : decode cX7_hearers 7 = .ok (.bipush 10, 2) := by decide +kernel
theorem dX7_hearers_9 : decode cX7_hearers 9 = .ok (.irem, 1) := by decide +kernel
theorem dX7_hearers_10 : decode cX7_hearers 10 = .ok (.aload_n 0, 1) := by decide +kernel
theorem dX7_hearers_11 : decode cX7_hearers 11 = .ok (.iload_n 2, 1) := by decide +kernel
theorem dX7_hearers_12 : decode cX7_hearers 12 = .ok (.invokevirtual 78, 3) := by decide +kernel
theorem dX7_hearers_15 : decode cX7_hearers 15 = .ok (.isub, 1) := by decide +kernel
theorem dX7_hearers_16 : decode cX7_hearers 16 = .ok (.iconst 0, 1) := by decide +kernel
theorem dX7_hearers_17 : decode cX7_hearers 17 = .ok (.bipush 9, 2) := by decide +kernel
theorem dX7_hearers_19 : decode cX7_hearers 19 = .ok (.invokestatic 66, 3) := by decide +kernel
theorem dX7_hearers_22 : decode cX7_hearers 22 = .ok (.istore_n 3, 1) := by decide +kernel
theorem dX7_hearers_23 : decode cX7_hearers 23 = .ok (.iconst 0, 1) := by decide +kernel
theorem dX7_hearers_24 : decode cX7_hearers 24 = .ok (.istore 4, 2) := by decide +kernel
theorem dX7_hearers_26 : decode cX7_hearers 26 = .ok (.iconst 0, 1) := by decide +kernel
theorem dX7_hearers_27 : decode cX7_hearers 27 = .ok (.istore 5, 2) := by decide +kernel
theorem dX7_hearers_29 : decode cX7_hearers 29 = .ok (.iload 5, 2) := by decide +kernel
theorem dX7_hearers_31 : decode cX7_hearers 31 = .ok (.aload_n 0, 1) := by decide +kernel
theorem dX7_hearers_32 : decode cX7_hearers 32 = .ok (.getfield 7, 3) := by decide +kernel
theorem dX7_hearers_35 : decode cX7_hearers 35 = .ok (.iconst 0, 1) := by decide +kernel
theorem dX7_hearers_36 : decode cX7_hearers 36 = .ok (.iaload, 1) := by decide +kernel
theorem dX7_hearers_37 : decode cX7_hearers 37 = .ok (.if_icmp .ge 42, 3) := by decide +kernel
theorem dX7_hearers_40 : decode cX7_hearers 40 = .ok (.iload 4, 2) := by decide +kernel
theorem dX7_hearers_42 : decode cX7_hearers 42 = .ok (.aload_n 0, 1) := by decide +kernel
theorem dX7_hearers_43 : decode cX7_hearers 43 = .ok (.iload 5, 2) := by decide +kernel
theorem dX7_hearers_45 : decode cX7_hearers 45 = .ok (.iload_n 2, 1) := by decide +kernel
theorem dX7_hearers_46 : decode cX7_hearers 46 = .ok (.invokevirtual 62, 3) := by decide +kernel
theorem dX7_hearers_49 : decode cX7_hearers 49 = .ok (.ifCond .eq 20, 3) := by decide +kernel
theorem dX7_hearers_52 : decode cX7_hearers 52 = .ok (.aload_n 0, 1) := by decide +kernel
theorem dX7_hearers_53 : decode cX7_hearers 53 = .ok (.iload 5, 2) := by decide +kernel
theorem dX7_hearers_55 : decode cX7_hearers 55 = .ok (.invokevirtual 81, 3) := by decide +kernel
theorem dX7_hearers_58 : decode cX7_hearers 58 = .ok (.iload_n 3, 1) := by decide +kernel
theorem dX7_hearers_59 : decode cX7_hearers 59 = .ok (.if_icmp .gt 10, 3) := by decide +kernel
theorem dX7_hearers_62 : decode cX7_hearers 62 = .ok (.iconst 1, 1) := by decide +kernel
theorem dX7_hearers_63 : decode cX7_hearers 63 = .ok (.iload 5, 2) := by decide +kernel
theorem dX7_hearers_65 : decode cX7_hearers 65 = .ok (.ishl, 1) := by decide +kernel
theorem dX7_hearers_66 : decode cX7_hearers 66 = .ok (.goto 4, 3) := by decide +kernel
theorem dX7_hearers_69 : decode cX7_hearers 69 = .ok (.iconst 0, 1) := by decide +kernel
theorem dX7_hearers_70 : decode cX7_hearers 70 = .ok (.ior, 1) := by decide +kernel
theorem dX7_hearers_71 : decode cX7_hearers 71 = .ok (.istore 4, 2) := by decide +kernel
theorem dX7_hearers_73 : decode cX7_hearers 73 = .ok (.iinc 5 1, 3) := by decide +kernel
theorem dX7_hearers_76 : decode cX7_hearers 76 = .ok (.goto (-47), 3) := by decide +kernel
theorem dX7_hearers_79 : decode cX7_hearers 79 = .ok (.iload 4, 2) := by decide +kernel
theorem dX7_hearers_81 : decode cX7_hearers 81 = .ok (.ireturn, 1) := by decide +kernel
theorem dX7_learns_0 : decode cX7_learns 0 = .ok (.aload_n 0, 1) := by decide +kernel
theorem dX7_learns_1 : decode cX7_learns 1 = .ok (.iload_n 1, 1) := by decide +kernel
theorem dX7_learns_2 : decode cX7_learns 2 = .ok (.iconst 3, 1) := by decide +kernel
theorem dX7_learns_3 : decode cX7_learns 3 = .ok (.invokevirtual 58, 3) := by decide +kernel
theorem dX7_learns_6 : decode cX7_learns 6 = .ok (.iconst 1, 1) := by decide +kernel
theorem dX7_learns_7 : decode cX7_learns 7 = .ok (.iload_n 2, 1) := by decide +kernel
theorem dX7_learns_8 : decode cX7_learns 8 = .ok (.ishl, 1) := by decide +kernel
theorem dX7_learns_9 : decode cX7_learns 9 = .ok (.ior, 1) := by decide +kernel
theorem dX7_learns_10 : decode cX7_learns 10 = .ok (.istore_n 3, 1) := by decide +kernel
theorem dX7_learns_11 : decode cX7_learns 11 = .ok (.iload_n 3, 1) := by decide +kernel
theorem dX7_learns_12 : decode cX7_learns 12 = .ok (.invokestatic 84, 3) := by decide +kernel
theorem dX7_learns_15 : decode cX7_learns 15 = .ok (.aload_n 0, 1) := by decide +kernel
theorem dX7_learns_16 : decode cX7_learns 16 = .ok (.iload_n 1, 1) := by decide +kernel
theorem dX7_learns_17 : decode cX7_learns 17 = .ok (.invokevirtual 87, 3) := by decide +kernel
theorem dX7_learns_20 : decode cX7_learns 20 = .ok (.if_icmp .le 36, 3) := by decide +kernel
theorem dX7_learns_23 : decode cX7_learns 23 = .ok (.iconst 0, 1) := by decide +kernel
theorem dX7_learns_24 : decode cX7_learns 24 = .ok (.istore 4, 2) := by decide +kernel
theorem dX7_learns_26 : decode cX7_learns 26 = .ok (.iload_n 3, 1) := by decide +kernel
theorem dX7_learns_27 : decode cX7_learns 27 = .ok (.iload 4, 2) := by decide +kernel
theorem dX7_learns_29 : decode cX7_learns 29 = .ok (.ishr, 1) := by decide +kernel
theorem dX7_learns_30 : decode cX7_learns 30 = .ok (.iconst 1, 1) := by decide +kernel
theorem dX7_learns_31 : decode cX7_learns 31 = .ok (.iand, 1) := by decide +kernel
theorem dX7_learns_32 : decode cX7_learns 32 = .ok (.ifCond .eq 9, 3) := by decide +kernel
theorem dX7_learns_35 : decode cX7_learns 35 = .ok (.iload 4, 2) := by decide +kernel
theorem dX7_learns_37 : decode cX7_learns 37 = .ok (.iload_n 2, 1) := by decide +kernel
theorem dX7_learns_38 : decode cX7_learns 38 = .ok (.if_icmp .ne 9, 3) := by decide +kernel
theorem dX7_learns_41 : decode cX7_learns 41 = .ok (.iinc 4 1, 3) := by decide +kernel
theorem dX7_learns_44 : decode cX7_learns 44 = .ok (.goto (-18), 3) := by decide +kernel
theorem dX7_learns_47 : decode cX7_learns 47 = .ok (.iload_n 3, 1) := by decide +kernel
theorem dX7_learns_48 : decode cX7_learns 48 = .ok (.iconst 1, 1) := by decide +kernel
theorem dX7_learns_49 : decode cX7_learns 49 = .ok (.iload 4, 2) := by decide +kernel
theorem dX7_learns_51 : decode cX7_learns 51 = .ok (.ishl, 1) := by decide +kernel
theorem dX7_learns_52 : decode cX7_learns 52 = .ok (.iconst (-1), 1) := by decide +kernel
theorem dX7_learns_53 : decode cX7_learns 53 = .ok (.ixor, 1) := by decide +kernel
theorem dX7_learns_54 : decode cX7_learns 54 = .ok (.iand, 1) := by decide +kernel
theorem dX7_learns_55 : decode cX7_learns 55 = .ok (.istore_n 3, 1) := by decide +kernel
theorem dX7_learns_56 : decode cX7_learns 56 = .ok (.aload_n 0, 1) := by decide +kernel
theorem dX7_learns_57 : decode cX7_learns 57 = .ok (.iload_n 1, 1) := by decide +kernel
theorem dX7_learns_58 : decode cX7_learns 58 = .ok (.iconst 3, 1) := by decide +kernel
theorem dX7_learns_59 : decode cX7_learns 59 = .ok (.iload_n 3, 1) := by decide +kernel
theorem dX7_learns_60 : decode cX7_learns 60 = .ok (.invokevirtual 90, 3) := by decide +kernel
theorem dX7_learns_63 : decode cX7_learns 63 = .ok (.return_, 1) := by decide +kernel
theorem dX7_drawnOn_0 : decode cX7_drawnOn 0 = .ok (.aload_n 0, 1) := by decide +kernel
theorem dX7_drawnOn_1 : decode cX7_drawnOn 1 = .ok (.iload_n 1, 1) := by decide +kernel
theorem dX7_drawnOn_2 : decode cX7_drawnOn 2 = .ok (.iconst 5, 1) := by decide +kernel
theorem dX7_drawnOn_3 : decode cX7_drawnOn 3 = .ok (.aload_n 0, 1) := by decide +kernel
theorem dX7_drawnOn_4 : decode cX7_drawnOn 4 = .ok (.iload_n 1, 1) := by decide +kernel
theorem dX7_drawnOn_5 : decode cX7_drawnOn 5 = .ok (.iconst 5, 1) := by decide +kernel
theorem dX7_drawnOn_6 : decode cX7_drawnOn 6 = .ok (.invokevirtual 58, 3) := by decide +kernel
theorem dX7_drawnOn_9 : decode cX7_drawnOn 9 = .ok (.aload_n 0, 1) := by decide +kernel
theorem dX7_drawnOn_10 : decode cX7_drawnOn 10 = .ok (.iload_n 1, 1) := by decide +kernel
theorem dX7_drawnOn_11 : decode cX7_drawnOn 11 = .ok (.iconst 3, 1) := by decide +kernel
theorem dX7_drawnOn_12 : decode cX7_drawnOn 12 = .ok (.invokevirtual 58, 3) := by decide +kernel
theorem dX7_drawnOn_15 : decode cX7_drawnOn 15 = .ok (.ior, 1) := by decide +kernel
theorem dX7_drawnOn_16 : decode cX7_drawnOn 16 = .ok (.invokevirtual 90, 3) := by decide +kernel
theorem dX7_drawnOn_19 : decode cX7_drawnOn 19 = .ok (.aload_n 0, 1) := by decide +kernel
theorem dX7_drawnOn_20 : decode cX7_drawnOn 20 = .ok (.iload_n 1, 1) := by decide +kernel
theorem dX7_drawnOn_21 : decode cX7_drawnOn 21 = .ok (.iconst 3, 1) := by decide +kernel
theorem dX7_drawnOn_22 : decode cX7_drawnOn 22 = .ok (.iconst 0, 1) := by decide +kernel
theorem dX7_drawnOn_23 : decode cX7_drawnOn 23 = .ok (.invokevirtual 90, 3) := by decide +kernel
theorem dX7_drawnOn_26 : decode cX7_drawnOn 26 = .ok (.aload_n 0, 1) := by decide +kernel
theorem dX7_drawnOn_27 : decode cX7_drawnOn 27 = .ok (.iload_n 1, 1) := by decide +kernel
theorem dX7_drawnOn_28 : decode cX7_drawnOn 28 = .ok (.iconst 4, 1) := by decide +kernel
theorem dX7_drawnOn_29 : decode cX7_drawnOn 29 = .ok (.iconst 0, 1) := by decide +kernel
theorem dX7_drawnOn_30 : decode cX7_drawnOn 30 = .ok (.invokevirtual 90, 3) := by decide +kernel
theorem dX7_drawnOn_33 : decode cX7_drawnOn 33 = .ok (.aload_n 0, 1) := by decide +kernel
theorem dX7_drawnOn_34 : decode cX7_drawnOn 34 = .ok (.iload_n 1, 1) := by decide +kernel
theorem dX7_drawnOn_35 : decode cX7_drawnOn 35 = .ok (.bipush 6, 2) := by decide +kernel
theorem dX7_drawnOn_37 : decode cX7_drawnOn 37 = .ok (.aload_n 0, 1) := by decide +kernel
theorem dX7_drawnOn_38 : decode cX7_drawnOn 38 = .ok (.iload_n 1, 1) := by decide +kernel
theorem dX7_drawnOn_39 : decode cX7_drawnOn 39 = .ok (.bipush 6, 2) := by decide +kernel
theorem dX7_drawnOn_41 : decode cX7_drawnOn 41 = .ok (.invokevirtual 58, 3) := by decide +kernel
theorem dX7_drawnOn_44 : decode cX7_drawnOn 44 = .ok (.iconst 1, 1) := by decide +kernel
theorem dX7_drawnOn_45 : decode cX7_drawnOn 45 = .ok (.iadd, 1) := by decide +kernel
theorem dX7_drawnOn_46 : decode cX7_drawnOn 46 = .ok (.iconst 0, 1) := by decide +kernel
theorem dX7_drawnOn_47 : decode cX7_drawnOn 47 = .ok (.sipush 9999, 3) := by decide +kernel
theorem dX7_drawnOn_50 : decode cX7_drawnOn 50 = .ok (.invokestatic 66, 3) := by decide +kernel
theorem dX7_drawnOn_53 : decode cX7_drawnOn 53 = .ok (.invokevirtual 90, 3) := by decide +kernel
theorem dX7_drawnOn_56 : decode cX7_drawnOn 56 = .ok (.aload_n 0, 1) := by decide +kernel
theorem dX7_drawnOn_57 : decode cX7_drawnOn 57 = .ok (.iload_n 1, 1) := by decide +kernel
theorem dX7_drawnOn_58 : decode cX7_drawnOn 58 = .ok (.iconst 1, 1) := by decide +kernel
theorem dX7_drawnOn_59 : decode cX7_drawnOn 59 = .ok (.aload_n 0, 1) := by decide +kernel
theorem dX7_drawnOn_60 : decode cX7_drawnOn 60 = .ok (.iload_n 1, 1) := by decide +kernel
theorem dX7_drawnOn_61 : decode cX7_drawnOn 61 = .ok (.iconst 1, 1) := by decide +kernel
theorem dX7_drawnOn_62 : decode cX7_drawnOn 62 = .ok (.invokevirtual 58, 3) := by decide +kernel
theorem dX7_drawnOn_65 : decode cX7_drawnOn 65 = .ok (.iconst 1, 1) := by decide +kernel
theorem dX7_drawnOn_66 : decode cX7_drawnOn 66 = .ok (.iadd, 1) := by decide +kernel
theorem dX7_drawnOn_67 : decode cX7_drawnOn 67 = .ok (.bipush 6, 2) := by decide +kernel
theorem dX7_drawnOn_69 : decode cX7_drawnOn 69 = .ok (.irem, 1) := by decide +kernel
theorem dX7_drawnOn_70 : decode cX7_drawnOn 70 = .ok (.invokevirtual 90, 3) := by decide +kernel
theorem dX7_drawnOn_73 : decode cX7_drawnOn 73 = .ok (.return_, 1) := by decide +kernel
theorem dX7_todays_0 : decode cX7_todays 0 = .ok (.aload_n 0, 1) := by decide +kernel
theorem dX7_todays_1 : decode cX7_todays 1 = .ok (.getfield 7, 3) := by decide +kernel
theorem dX7_todays_4 : decode cX7_todays 4 = .ok (.iconst 3, 1) := by decide +kernel
theorem dX7_todays_5 : decode cX7_todays 5 = .ok (.aload_n 0, 1) := by decide +kernel
theorem dX7_todays_6 : decode cX7_todays 6 = .ok (.getfield 7, 3) := by decide +kernel
theorem dX7_todays_9 : decode cX7_todays 9 = .ok (.iconst 1, 1) := by decide +kernel
theorem dX7_todays_10 : decode cX7_todays 10 = .ok (.iaload, 1) := by decide +kernel
theorem dX7_todays_11 : decode cX7_todays 11 = .ok (.bipush 6, 2) := by decide +kernel
theorem dX7_todays_13 : decode cX7_todays 13 = .ok (.irem, 1) := by decide +kernel
theorem dX7_todays_14 : decode cX7_todays 14 = .ok (.iadd, 1) := by decide +kernel
theorem dX7_todays_15 : decode cX7_todays 15 = .ok (.iaload, 1) := by decide +kernel
theorem dX7_todays_16 : decode cX7_todays 16 = .ok (.ireturn, 1) := by decide +kernel
theorem dX7_dayGoes_0 : decode cX7_dayGoes 0 = .ok (.aload_n 0, 1) := by decide +kernel
theorem dX7_dayGoes_1 : decode cX7_dayGoes 1 = .ok (.aload_n 0, 1) := by decide +kernel
theorem dX7_dayGoes_2 : decode cX7_dayGoes 2 = .ok (.invokevirtual 94, 3) := by decide +kernel
theorem dX7_dayGoes_5 : decode cX7_dayGoes 5 = .ok (.invokevirtual 98, 3) := by decide +kernel
theorem dX7_dayGoes_8 : decode cX7_dayGoes 8 = .ok (.istore_n 1, 1) := by decide +kernel
theorem dX7_dayGoes_9 : decode cX7_dayGoes 9 = .ok (.iconst 0, 1) := by decide +kernel
theorem dX7_dayGoes_10 : decode cX7_dayGoes 10 = .ok (.istore_n 2, 1) := by decide +kernel
theorem dX7_dayGoes_11 : decode cX7_dayGoes 11 = .ok (.iload_n 2, 1) := by decide +kernel
theorem dX7_dayGoes_12 : decode cX7_dayGoes 12 = .ok (.aload_n 0, 1) := by decide +kernel
theorem dX7_dayGoes_13 : decode cX7_dayGoes 13 = .ok (.getfield 7, 3) := by decide +kernel

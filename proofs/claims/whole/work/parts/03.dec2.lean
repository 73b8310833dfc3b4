theorem dX7_dayGoes_16 : decode cX7_dayGoes 16 = .ok (.iconst 0, 1) := by decide +kernel
theorem dX7_dayGoes_17 : decode cX7_dayGoes 17 = .ok (.iaload, 1) := by decide +kernel
theorem dX7_dayGoes_18 : decode cX7_dayGoes 18 = .ok (.if_icmp .ge 33, 3) := by decide +kernel
theorem dX7_dayGoes_21 : decode cX7_dayGoes 21 = .ok (.iload_n 1, 1) := by decide +kernel
theorem dX7_dayGoes_22 : decode cX7_dayGoes 22 = .ok (.iload_n 2, 1) := by decide +kernel
theorem dX7_dayGoes_23 : decode cX7_dayGoes 23 = .ok (.ishr, 1) := by decide +kernel
theorem dX7_dayGoes_24 : decode cX7_dayGoes 24 = .ok (.iconst 1, 1) := by decide +kernel
theorem dX7_dayGoes_25 : decode cX7_dayGoes 25 = .ok (.iand, 1) := by decide +kernel
theorem dX7_dayGoes_26 : decode cX7_dayGoes 26 = .ok (.iconst 1, 1) := by decide +kernel
theorem dX7_dayGoes_27 : decode cX7_dayGoes 27 = .ok (.if_icmp .ne 18, 3) := by decide +kernel
theorem dX7_dayGoes_30 : decode cX7_dayGoes 30 = .ok (.aload_n 0, 1) := by decide +kernel
theorem dX7_dayGoes_31 : decode cX7_dayGoes 31 = .ok (.iload_n 2, 1) := by decide +kernel
theorem dX7_dayGoes_32 : decode cX7_dayGoes 32 = .ok (.aload_n 0, 1) := by decide +kernel
theorem dX7_dayGoes_33 : decode cX7_dayGoes 33 = .ok (.invokevirtual 94, 3) := by decide +kernel
theorem dX7_dayGoes_36 : decode cX7_dayGoes 36 = .ok (.bipush 10, 2) := by decide +kernel
theorem dX7_dayGoes_38 : decode cX7_dayGoes 38 = .ok (.idiv, 1) := by decide +kernel
theorem dX7_dayGoes_39 : decode cX7_dayGoes 39 = .ok (.bipush 100, 2) := by decide +kernel
theorem dX7_dayGoes_41 : decode cX7_dayGoes 41 = .ok (.irem, 1) := by decide +kernel
theorem dX7_dayGoes_42 : decode cX7_dayGoes 42 = .ok (.invokevirtual 101, 3) := by decide +kernel
theorem dX7_dayGoes_45 : decode cX7_dayGoes 45 = .ok (.iinc 2 1, 3) := by decide +kernel
theorem dX7_dayGoes_48 : decode cX7_dayGoes 48 = .ok (.goto (-37), 3) := by decide +kernel
theorem dX7_dayGoes_51 : decode cX7_dayGoes 51 = .ok (.iconst 0, 1) := by decide +kernel
theorem dX7_dayGoes_52 : decode cX7_dayGoes 52 = .ok (.istore_n 2, 1) := by decide +kernel
theorem dX7_dayGoes_53 : decode cX7_dayGoes 53 = .ok (.iload_n 2, 1) := by decide +kernel
theorem dX7_dayGoes_54 : decode cX7_dayGoes 54 = .ok (.aload_n 0, 1) := by decide +kernel
theorem dX7_dayGoes_55 : decode cX7_dayGoes 55 = .ok (.getfield 7, 3) := by decide +kernel
theorem dX7_dayGoes_58 : decode cX7_dayGoes 58 = .ok (.iconst 0, 1) := by decide +kernel
theorem dX7_dayGoes_59 : decode cX7_dayGoes 59 = .ok (.iaload, 1) := by decide +kernel
theorem dX7_dayGoes_60 : decode cX7_dayGoes 60 = .ok (.if_icmp .ge 68, 3) := by decide +kernel
theorem dX7_dayGoes_63 : decode cX7_dayGoes 63 = .ok (.aload_n 0, 1) := by decide +kernel
theorem dX7_dayGoes_64 : decode cX7_dayGoes 64 = .ok (.getfield 54, 3) := by decide +kernel
theorem dX7_dayGoes_67 : decode cX7_dayGoes 67 = .ok (.iload_n 2, 1) := by decide +kernel
theorem dX7_dayGoes_68 : decode cX7_dayGoes 68 = .ok (.ishr, 1) := by decide +kernel
theorem dX7_dayGoes_69 : decode cX7_dayGoes 69 = .ok (.iconst 1, 1) := by decide +kernel
theorem dX7_dayGoes_70 : decode cX7_dayGoes 70 = .ok (.iand, 1) := by decide +kernel
theorem dX7_dayGoes_71 : decode cX7_dayGoes 71 = .ok (.ifCond .ne 51, 3) := by decide +kernel
theorem dX7_dayGoes_74 : decode cX7_dayGoes 74 = .ok (.aload_n 0, 1) := by decide +kernel
theorem dX7_dayGoes_75 : decode cX7_dayGoes 75 = .ok (.iload_n 2, 1) := by decide +kernel
theorem dX7_dayGoes_76 : decode cX7_dayGoes 76 = .ok (.iconst 4, 1) := by decide +kernel
theorem dX7_dayGoes_77 : decode cX7_dayGoes 77 = .ok (.aload_n 0, 1) := by decide +kernel
theorem dX7_dayGoes_78 : decode cX7_dayGoes 78 = .ok (.iload_n 2, 1) := by decide +kernel
theorem dX7_dayGoes_79 : decode cX7_dayGoes 79 = .ok (.iconst 4, 1) := by decide +kernel
theorem dX7_dayGoes_80 : decode cX7_dayGoes 80 = .ok (.invokevirtual 58, 3) := by decide +kernel
theorem dX7_dayGoes_83 : decode cX7_dayGoes 83 = .ok (.iconst 1, 1) := by decide +kernel
theorem dX7_dayGoes_84 : decode cX7_dayGoes 84 = .ok (.iadd, 1) := by decide +kernel
theorem dX7_dayGoes_85 : decode cX7_dayGoes 85 = .ok (.iconst 0, 1) := by decide +kernel
theorem dX7_dayGoes_86 : decode cX7_dayGoes 86 = .ok (.sipush 9999, 3) := by decide +kernel
theorem dX7_dayGoes_89 : decode cX7_dayGoes 89 = .ok (.invokestatic 66, 3) := by decide +kernel
theorem dX7_dayGoes_92 : decode cX7_dayGoes 92 = .ok (.invokevirtual 90, 3) := by decide +kernel
theorem dX7_dayGoes_95 : decode cX7_dayGoes 95 = .ok (.aload_n 0, 1) := by decide +kernel
theorem dX7_dayGoes_96 : decode cX7_dayGoes 96 = .ok (.iload_n 2, 1) := by decide +kernel
theorem dX7_dayGoes_97 : decode cX7_dayGoes 97 = .ok (.invokevirtual 105, 3) := by decide +kernel
theorem dX7_dayGoes_100 : decode cX7_dayGoes 100 = .ok (.ifCond .le 22, 3) := by decide +kernel
theorem dX7_dayGoes_103 : decode cX7_dayGoes 103 = .ok (.aload_n 0, 1) := by decide +kernel
theorem dX7_dayGoes_104 : decode cX7_dayGoes 104 = .ok (.iload_n 2, 1) := by decide +kernel
theorem dX7_dayGoes_105 : decode cX7_dayGoes 105 = .ok (.iconst 4, 1) := by decide +kernel
theorem dX7_dayGoes_106 : decode cX7_dayGoes 106 = .ok (.invokevirtual 58, 3) := by decide +kernel
theorem dX7_dayGoes_109 : decode cX7_dayGoes 109 = .ok (.aload_n 0, 1) := by decide +kernel
theorem dX7_dayGoes_110 : decode cX7_dayGoes 110 = .ok (.iload_n 2, 1) := by decide +kernel
theorem dX7_dayGoes_111 : decode cX7_dayGoes 111 = .ok (.invokevirtual 105, 3) := by decide +kernel
theorem dX7_dayGoes_114 : decode cX7_dayGoes 114 = .ok (.if_icmp .lt 8, 3) := by decide +kernel
theorem dX7_dayGoes_117 : decode cX7_dayGoes 117 = .ok (.aload_n 0, 1) := by decide +kernel
theorem dX7_dayGoes_118 : decode cX7_dayGoes 118 = .ok (.iload_n 2, 1) := by decide +kernel
theorem dX7_dayGoes_119 : decode cX7_dayGoes 119 = .ok (.invokevirtual 108, 3) := by decide +kernel
theorem dX7_dayGoes_122 : decode cX7_dayGoes 122 = .ok (.iinc 2 1, 3) := by decide +kernel
theorem dX7_dayGoes_125 : decode cX7_dayGoes 125 = .ok (.goto (-72), 3) := by decide +kernel
theorem dX7_dayGoes_128 : decode cX7_dayGoes 128 = .ok (.aload_n 0, 1) := by decide +kernel
theorem dX7_dayGoes_129 : decode cX7_dayGoes 129 = .ok (.getfield 7, 3) := by decide +kernel
theorem dX7_dayGoes_132 : decode cX7_dayGoes 132 = .ok (.iconst 1, 1) := by decide +kernel
theorem dX7_dayGoes_133 : decode cX7_dayGoes 133 = .ok (.aload_n 0, 1) := by decide +kernel
theorem dX7_dayGoes_134 : decode cX7_dayGoes 134 = .ok (.getfield 7, 3) := by decide +kernel
theorem dX7_dayGoes_137 : decode cX7_dayGoes 137 = .ok (.iconst 1, 1) := by decide +kernel
theorem dX7_dayGoes_138 : decode cX7_dayGoes 138 = .ok (.iaload, 1) := by decide +kernel
theorem dX7_dayGoes_139 : decode cX7_dayGoes 139 = .ok (.iconst 1, 1) := by decide +kernel
theorem dX7_dayGoes_140 : decode cX7_dayGoes 140 = .ok (.iadd, 1) := by decide +kernel
theorem dX7_dayGoes_141 : decode cX7_dayGoes 141 = .ok (.iconst 0, 1) := by decide +kernel
theorem dX7_dayGoes_142 : decode cX7_dayGoes 142 = .ok (.ldc 112, 2) := by decide +kernel
theorem dX7_dayGoes_144 : decode cX7_dayGoes 144 = .ok (.invokestatic 66, 3) := by decide +kernel
theorem dX7_dayGoes_147 : decode cX7_dayGoes 147 = .ok (.iastore, 1) := by decide +kernel
theorem dX7_dayGoes_148 : decode cX7_dayGoes 148 = .ok (.return_, 1) := by decide +kernel
theorem dX7_daysGo_0 : decode cX7_daysGo 0 = .ok (.iconst 0, 1) := by decide +kernel
theorem dX7_daysGo_1 : decode cX7_daysGo 1 = .ok (.istore_n 2, 1) := by decide +kernel
theorem dX7_daysGo_2 : decode cX7_daysGo 2 = .ok (.iload_n 2, 1) := by decide +kernel
theorem dX7_daysGo_3 : decode cX7_daysGo 3 = .ok (.iload_n 1, 1) := by decide +kernel
theorem dX7_daysGo_4 : decode cX7_daysGo 4 = .ok (.if_icmp .ge 13, 3) := by decide +kernel
theorem dX7_daysGo_7 : decode cX7_daysGo 7 = .ok (.aload_n 0, 1) := by decide +kernel
theorem dX7_daysGo_8 : decode cX7_daysGo 8 = .ok (.invokevirtual 113, 3) := by decide +kernel
theorem dX7_daysGo_11 : decode cX7_daysGo 11 = .ok (.iinc 2 1, 3) := by decide +kernel
theorem dX7_daysGo_14 : decode cX7_daysGo 14 = .ok (.goto (-12), 3) := by decide +kernel
theorem dX7_daysGo_17 : decode cX7_daysGo 17 = .ok (.return_, 1) := by decide +kernel
theorem dX7_known_0 : decode cX7_known 0 = .ok (.iconst 0, 1) := by decide +kernel
theorem dX7_known_1 : decode cX7_known 1 = .ok (.istore_n 3, 1) := by decide +kernel
theorem dX7_known_2 : decode cX7_known 2 = .ok (.iconst 0, 1) := by decide +kernel
theorem dX7_known_3 : decode cX7_known 3 = .ok (.istore 4, 2) := by decide +kernel
theorem dX7_known_5 : decode cX7_known 5 = .ok (.iload 4, 2) := by decide +kernel
theorem dX7_known_7 : decode cX7_known 7 = .ok (.aload_n 0, 1) := by decide +kernel
theorem dX7_known_8 : decode cX7_known 8 = .ok (.getfield 7, 3) := by decide +kernel
theorem dX7_known_11 : decode cX7_known 11 = .ok (.iconst 0, 1) := by decide +kernel
theorem dX7_known_12 : decode cX7_known 12 = .ok (.iaload, 1) := by decide +kernel
theorem dX7_known_13 : decode cX7_known 13 = .ok (.if_icmp .ge 33, 3) := by decide +kernel
theorem dX7_known_16 : decode cX7_known 16 = .ok (.iload_n 3, 1) := by decide +kernel
theorem dX7_known_17 : decode cX7_known 17 = .ok (.iload_n 1, 1) := by decide +kernel
theorem dX7_known_18 : decode cX7_known 18 = .ok (.iload 4, 2) := by decide +kernel
theorem dX7_known_20 : decode cX7_known 20 = .ok (.ishr, 1) := by decide +kernel
theorem dX7_known_21 : decode cX7_known 21 = .ok (.iconst 1, 1) := by decide +kernel
theorem dX7_known_22 : decode cX7_known 22 = .ok (.iand, 1) := by decide +kernel
theorem dX7_known_23 : decode cX7_known 23 = .ok (.iconst 1, 1) := by decide +kernel
theorem dX7_known_24 : decode cX7_known 24 = .ok (.if_icmp .ne 13, 3) := by decide +kernel
theorem dX7_known_27 : decode cX7_known 27 = .ok (.aload_n 0, 1) := by decide +kernel
theorem dX7_known_28 : decode cX7_known 28 = .ok (.iload 4, 2) := by decide +kernel
theorem dX7_known_30 : decode cX7_known 30 = .ok (.iload_n 2, 1) := by decide +kernel
theorem dX7_known_31 : decode cX7_known 31 = .ok (.invokevirtual 58, 3) := by decide +kernel
theorem dX7_known_34 : decode cX7_known 34 = .ok (.goto 4, 3) := by decide +kernel
theorem dX7_known_37 : decode cX7_known 37 = .ok (.iconst 0, 1) := by decide +kernel
theorem dX7_known_38 : decode cX7_known 38 = .ok (.ior, 1) := by decide +kernel
theorem dX7_known_39 : decode cX7_known 39 = .ok (.istore_n 3, 1) := by decide +kernel
theorem dX7_known_40 : decode cX7_known 40 = .ok (.iinc 4 1, 3) := by decide +kernel
theorem dX7_known_43 : decode cX7_known 43 = .ok (.goto (-38), 3) := by decide +kernel
theorem dX7_known_46 : decode cX7_known 46 = .ok (.iload_n 3, 1) := by decide +kernel
theorem dX7_known_47 : decode cX7_known 47 = .ok (.ireturn, 1) := by decide +kernel
theorem dX7_allKnow_0 : decode cX7_allKnow 0 = .ok (.aload_n 0, 1) := by decide +kernel
theorem dX7_allKnow_1 : decode cX7_allKnow 1 = .ok (.sipush 255, 3) := by decide +kernel
theorem dX7_allKnow_4 : decode cX7_allKnow 4 = .ok (.iconst 3, 1) := by decide +kernel
theorem dX7_allKnow_5 : decode cX7_allKnow 5 = .ok (.invokevirtual 116, 3) := by decide +kernel
theorem dX7_allKnow_8 : decode cX7_allKnow 8 = .ok (.ireturn, 1) := by decide +kernel
theorem dX7_allHands_0 : decode cX7_allHands 0 = .ok (.aload_n 0, 1) := by decide +kernel
theorem dX7_allHands_1 : decode cX7_allHands 1 = .ok (.sipush 255, 3) := by decide +kernel
theorem dX7_allHands_4 : decode cX7_allHands 4 = .ok (.iconst 5, 1) := by decide +kernel
theorem dX7_allHands_5 : decode cX7_allHands 5 = .ok (.invokevirtual 116, 3) := by decide +kernel
theorem dX7_allHands_8 : decode cX7_allHands 8 = .ok (.ireturn, 1) := by decide +kernel
theorem dX7_allDrawn_0 : decode cX7_allDrawn 0 = .ok (.iconst 0, 1) := by decide +kernel
theorem dX7_allDrawn_1 : decode cX7_allDrawn 1 = .ok (.istore_n 1, 1) := by decide +kernel
theorem dX7_allDrawn_2 : decode cX7_allDrawn 2 = .ok (.iconst 0, 1) := by decide +kernel
theorem dX7_allDrawn_3 : decode cX7_allDrawn 3 = .ok (.istore_n 2, 1) := by decide +kernel
theorem dX7_allDrawn_4 : decode cX7_allDrawn 4 = .ok (.iload_n 2, 1) := by decide +kernel
theorem dX7_allDrawn_5 : decode cX7_allDrawn 5 = .ok (.aload_n 0, 1) := by decide +kernel
theorem dX7_allDrawn_6 : decode cX7_allDrawn 6 = .ok (.getfield 7, 3) := by decide +kernel
theorem dX7_allDrawn_9 : decode cX7_allDrawn 9 = .ok (.iconst 0, 1) := by decide +kernel
theorem dX7_allDrawn_10 : decode cX7_allDrawn 10 = .ok (.iaload, 1) := by decide +kernel
theorem dX7_allDrawn_11 : decode cX7_allDrawn 11 = .ok (.if_icmp .ge 19, 3) := by decide +kernel
theorem dX7_allDrawn_14 : decode cX7_allDrawn 14 = .ok (.iload_n 1, 1) := by decide +kernel
theorem dX7_allDrawn_15 : decode cX7_allDrawn 15 = .ok (.aload_n 0, 1) := by decide +kernel
theorem dX7_allDrawn_16 : decode cX7_allDrawn 16 = .ok (.iload_n 2, 1) := by decide +kernel
theorem dX7_allDrawn_17 : decode cX7_allDrawn 17 = .ok (.bipush 6, 2) := by decide +kernel
theorem dX7_allDrawn_19 : decode cX7_allDrawn 19 = .ok (.invokevirtual 58, 3) := by decide +kernel
theorem dX7_allDrawn_22 : decode cX7_allDrawn 22 = .ok (.iadd, 1) := by decide +kernel
theorem dX7_allDrawn_23 : decode cX7_allDrawn 23 = .ok (.istore_n 1, 1) := by decide +kernel
theorem dX7_allDrawn_24 : decode cX7_allDrawn 24 = .ok (.iinc 2 1, 3) := by decide +kernel
theorem dX7_allDrawn_27 : decode cX7_allDrawn 27 = .ok (.goto (-23), 3) := by decide +kernel
theorem dX7_allDrawn_30 : decode cX7_allDrawn 30 = .ok (.iload_n 1, 1) := by decide +kernel
theorem dX7_allDrawn_31 : decode cX7_allDrawn 31 = .ok (.ireturn, 1) := by decide +kernel
theorem dX7_say_0 : decode cX7_say 0 = .ok (.iload_n 1, 1) := by decide +kernel
theorem dX7_say_1 : decode cX7_say 1 = .ok (.invokestatic 119, 3) := by decide +kernel
theorem dX7_say_4 : decode cX7_say 4 = .ok (.ifCond .eq 21, 3) := by decide +kernel
theorem dX7_say_7 : decode cX7_say 7 = .ok (.iload_n 2, 1) := by decide +kernel
theorem dX7_say_8 : decode cX7_say 8 = .ok (.invokestatic 122, 3) := by decide +kernel
theorem dX7_say_11 : decode cX7_say 11 = .ok (.ifCond .eq 14, 3) := by decide +kernel
theorem dX7_say_14 : decode cX7_say 14 = .ok (.aload_n 0, 1) := by decide +kernel
theorem dX7_say_15 : decode cX7_say 15 = .ok (.iconst 3, 1) := by decide +kernel
theorem dX7_say_16 : decode cX7_say 16 = .ok (.iload_n 1, 1) := by decide +kernel
theorem dX7_say_17 : decode cX7_say 17 = .ok (.iadd, 1) := by decide +kernel
theorem dX7_say_18 : decode cX7_say 18 = .ok (.iload_n 2, 1) := by decide +kernel
theorem dX7_say_19 : decode cX7_say 19 = .ok (.invokevirtual 125, 3) := by decide +kernel
theorem dX7_say_22 : decode cX7_say 22 = .ok (.goto 8, 3) := by decide +kernel
theorem dX7_say_25 : decode cX7_say 25 = .ok (.aload_n 0, 1) := by decide +kernel
theorem dX7_say_26 : decode cX7_say 26 = .ok (.iconst 0, 1) := by decide +kernel
theorem dX7_say_27 : decode cX7_say 27 = .ok (.invokevirtual 128, 3) := by decide +kernel
theorem dX7_say_30 : decode cX7_say 30 = .ok (.ireturn, 1) := by decide +kernel
theorem dX7_said_0 : decode cX7_said 0 = .ok (.iload_n 1, 1) := by decide +kernel
theorem dX7_said_1 : decode cX7_said 1 = .ok (.invokestatic 119, 3) := by decide +kernel
theorem dX7_said_4 : decode cX7_said 4 = .ok (.ifCond .eq 14, 3) := by decide +kernel
theorem dX7_said_7 : decode cX7_said 7 = .ok (.aload_n 0, 1) := by decide +kernel
theorem dX7_said_8 : decode cX7_said 8 = .ok (.getfield 7, 3) := by decide +kernel
theorem dX7_said_11 : decode cX7_said 11 = .ok (.iconst 3, 1) := by decide +kernel
theorem dX7_said_12 : decode cX7_said 12 = .ok (.iload_n 1, 1) := by decide +kernel
theorem dX7_said_13 : decode cX7_said 13 = .ok (.iadd, 1) := by decide +kernel
theorem dX7_said_14 : decode cX7_said 14 = .ok (.iaload, 1) := by decide +kernel
theorem dX7_said_15 : decode cX7_said 15 = .ok (.goto 8, 3) := by decide +kernel
theorem dX7_said_18 : decode cX7_said 18 = .ok (.aload_n 0, 1) := by decide +kernel
theorem dX7_said_19 : decode cX7_said 19 = .ok (.iconst 0, 1) := by decide +kernel
theorem dX7_said_20 : decode cX7_said 20 = .ok (.invokevirtual 128, 3) := by decide +kernel
theorem dX7_said_23 : decode cX7_said 23 = .ok (.ireturn, 1) := by decide +kernel
theorem dX7_room_0 : decode cX7_room 0 = .ok (.iload_n 1, 1) := by decide +kernel
theorem dX7_room_1 : decode cX7_room 1 = .ok (.invokestatic 119, 3) := by decide +kernel
theorem dX7_room_4 : decode cX7_room 4 = .ok (.ifCond .eq 15, 3) := by decide +kernel
theorem dX7_room_7 : decode cX7_room 7 = .ok (.iload_n 2, 1) := by decide +kernel
theorem dX7_room_8 : decode cX7_room 8 = .ok (.i2l, 1) := by decide +kernel
theorem dX7_room_9 : decode cX7_room 9 = .ok (.lconst 0, 1) := by decide +kernel
theorem dX7_room_10 : decode cX7_room 10 = .ok (.ldc2_w 131, 3) := by decide +kernel
theorem dX7_room_13 : decode cX7_room 13 = .ok (.invokestatic 42, 3) := by decide +kernel
theorem dX7_room_16 : decode cX7_room 16 = .ok (.ifCond .ne 9, 3) := by decide +kernel
theorem dX7_room_19 : decode cX7_room 19 = .ok (.aload_n 0, 1) := by decide +kernel
theorem dX7_room_20 : decode cX7_room 20 = .ok (.iconst 0, 1) := by decide +kernel
theorem dX7_room_21 : decode cX7_room 21 = .ok (.invokevirtual 128, 3) := by decide +kernel
theorem dX7_room_24 : decode cX7_room 24 = .ok (.ireturn, 1) := by decide +kernel
theorem dX7_room_25 : decode cX7_room 25 = .ok (.iconst 0, 1) := by decide +kernel
theorem dX7_room_26 : decode cX7_room 26 = .ok (.istore_n 3, 1) := by decide +kernel
theorem dX7_room_27 : decode cX7_room 27 = .ok (.iconst 0, 1) := by decide +kernel
theorem dX7_room_28 : decode cX7_room 28 = .ok (.istore 4, 2) := by decide +kernel
theorem dX7_room_30 : decode cX7_room 30 = .ok (.iload 4, 2) := by decide +kernel
theorem dX7_room_32 : decode cX7_room 32 = .ok (.aload_n 0, 1) := by decide +kernel
theorem dX7_room_33 : decode cX7_room 33 = .ok (.getfield 7, 3) := by decide +kernel
theorem dX7_room_36 : decode cX7_room 36 = .ok (.iconst 0, 1) := by decide +kernel
theorem dX7_room_37 : decode cX7_room 37 = .ok (.iaload, 1) := by decide +kernel
theorem dX7_room_38 : decode cX7_room 38 = .ok (.if_icmp .ge 30, 3) := by decide +kernel
theorem dX7_room_41 : decode cX7_room 41 = .ok (.iload_n 3, 1) := by decide +kernel
theorem dX7_room_42 : decode cX7_room 42 = .ok (.aload_n 0, 1) := by decide +kernel
theorem dX7_room_43 : decode cX7_room 43 = .ok (.iload 4, 2) := by decide +kernel
theorem dX7_room_45 : decode cX7_room 45 = .ok (.iload_n 1, 1) := by decide +kernel
theorem dX7_room_46 : decode cX7_room 46 = .ok (.invokevirtual 62, 3) := by decide +kernel
theorem dX7_room_49 : decode cX7_room 49 = .ok (.ifCond .eq 10, 3) := by decide +kernel
theorem dX7_room_52 : decode cX7_room 52 = .ok (.iconst 1, 1) := by decide +kernel
theorem dX7_room_53 : decode cX7_room 53 = .ok (.iload 4, 2) := by decide +kernel
theorem dX7_room_55 : decode cX7_room 55 = .ok (.ishl, 1) := by decide +kernel
theorem dX7_room_56 : decode cX7_room 56 = .ok (.goto 4, 3) := by decide +kernel
theorem dX7_room_59 : decode cX7_room 59 = .ok (.iconst 0, 1) := by decide +kernel
theorem dX7_room_60 : decode cX7_room 60 = .ok (.ior, 1) := by decide +kernel
theorem dX7_room_61 : decode cX7_room 61 = .ok (.istore_n 3, 1) := by decide +kernel
theorem dX7_room_62 : decode cX7_room 62 = .ok (.iinc 4 1, 3) := by decide +kernel
theorem dX7_room_65 : decode cX7_room 65 = .ok (.goto (-35), 3) := by decide +kernel
theorem dX7_room_68 : decode cX7_room 68 = .ok (.iload_n 2, 1) := by decide +kernel
theorem dX7_room_69 : decode cX7_room 69 = .ok (.iconst 3, 1) := by decide +kernel
theorem dX7_room_70 : decode cX7_room 70 = .ok (.if_icmp .ge 31, 3) := by decide +kernel
theorem dX7_room_73 : decode cX7_room 73 = .ok (.iload_n 2, 1) := by decide +kernel
theorem dX7_room_74 : decode cX7_room 74 = .ok (.ifCond .ne 7, 3) := by decide +kernel
theorem dX7_room_77 : decode cX7_room 77 = .ok (.iload_n 3, 1) := by decide +kernel
theorem dX7_room_78 : decode cX7_room 78 = .ok (.goto 22, 3) := by decide +kernel
theorem dX7_room_81 : decode cX7_room 81 = .ok (.iload_n 2, 1) := by decide +kernel
theorem dX7_room_82 : decode cX7_room 82 = .ok (.iconst 1, 1) := by decide +kernel
theorem dX7_room_83 : decode cX7_room 83 = .ok (.if_icmp .ne 11, 3) := by decide +kernel
theorem dX7_room_86 : decode cX7_room 86 = .ok (.aload_n 0, 1) := by decide +kernel
theorem dX7_room_87 : decode cX7_room 87 = .ok (.iload_n 1, 1) := by decide +kernel
theorem dX7_room_88 : decode cX7_room 88 = .ok (.invokevirtual 78, 3) := by decide +kernel
theorem dX7_room_91 : decode cX7_room 91 = .ok (.goto 9, 3) := by decide +kernel
theorem dX7_room_94 : decode cX7_room 94 = .ok (.aload_n 0, 1) := by decide +kernel
theorem dX7_room_95 : decode cX7_room 95 = .ok (.iload_n 3, 1) := by decide +kernel
theorem dX7_room_96 : decode cX7_room 96 = .ok (.iconst 3, 1) := by decide +kernel
theorem dX7_room_97 : decode cX7_room 97 = .ok (.invokevirtual 116, 3) := by decide +kernel
theorem dX7_room_100 : decode cX7_room 100 = .ok (.ireturn, 1) := by decide +kernel
theorem dX7_room_101 : decode cX7_room 101 = .ok (.iconst 0, 1) := by decide +kernel
theorem dX7_room_102 : decode cX7_room 102 = .ok (.istore 4, 2) := by decide +kernel
theorem dX7_room_104 : decode cX7_room 104 = .ok (.iconst 0, 1) := by decide +kernel
theorem dX7_room_105 : decode cX7_room 105 = .ok (.istore 5, 2) := by decide +kernel
theorem dX7_room_107 : decode cX7_room 107 = .ok (.iload 5, 2) := by decide +kernel
theorem dX7_room_109 : decode cX7_room 109 = .ok (.bipush 6, 2) := by decide +kernel
theorem dX7_room_111 : decode cX7_room 111 = .ok (.if_icmp .ge 52, 3) := by decide +kernel
theorem dX7_room_114 : decode cX7_room 114 = .ok (.iload 4, 2) := by decide +kernel
theorem dX7_room_116 : decode cX7_room 116 = .ok (.aload_n 0, 1) := by decide +kernel
theorem dX7_room_117 : decode cX7_room 117 = .ok (.getfield 7, 3) := by decide +kernel
theorem dX7_room_120 : decode cX7_room 120 = .ok (.iconst 3, 1) := by decide +kernel
theorem dX7_room_121 : decode cX7_room 121 = .ok (.iload 5, 2) := by decide +kernel
theorem dX7_room_123 : decode cX7_room 123 = .ok (.iadd, 1) := by decide +kernel
theorem dX7_room_124 : decode cX7_room 124 = .ok (.iaload, 1) := by decide +kernel
theorem dX7_room_125 : decode cX7_room 125 = .ok (.sipush 1000, 3) := by decide +kernel
theorem dX7_room_128 : decode cX7_room 128 = .ok (.idiv, 1) := by decide +kernel
theorem dX7_room_129 : decode cX7_room 129 = .ok (.iload_n 1, 1) := by decide +kernel
theorem dX7_room_130 : decode cX7_room 130 = .ok (.if_icmp .ne 23, 3) := by decide +kernel
theorem dX7_room_133 : decode cX7_room 133 = .ok (.iconst 1, 1) := by decide +kernel
theorem dX7_room_134 : decode cX7_room 134 = .ok (.aload_n 0, 1) := by decide +kernel
theorem dX7_room_135 : decode cX7_room 135 = .ok (.getfield 7, 3) := by decide +kernel
theorem dX7_room_138 : decode cX7_room 138 = .ok (.iconst 3, 1) := by decide +kernel
theorem dX7_room_139 : decode cX7_room 139 = .ok (.iload 5, 2) := by decide +kernel
theorem dX7_room_141 : decode cX7_room 141 = .ok (.iadd, 1) := by decide +kernel
theorem dX7_room_142 : decode cX7_room 142 = .ok (.iaload, 1) := by decide +kernel
theorem dX7_room_143 : decode cX7_room 143 = .ok (.bipush 10, 2) := by decide +kernel
theorem dX7_room_145 : decode cX7_room 145 = .ok (.idiv, 1) := by decide +kernel
theorem dX7_room_146 : decode cX7_room 146 = .ok (.bipush 100, 2) := by decide +kernel
theorem dX7_room_148 : decode cX7_room 148 = .ok (.irem, 1) := by decide +kernel
theorem dX7_room_149 : decode cX7_room 149 = .ok (.ishl, 1) := by decide +kernel
theorem dX7_room_150 : decode cX7_room 150 = .ok (.goto 4, 3) := by decide +kernel
theorem dX7_room_153 : decode cX7_room 153 = .ok (.iconst 0, 1) := by decide +kernel
theorem dX7_room_154 : decode cX7_room 154 = .ok (.ior, 1) := by decide +kernel
theorem dX7_room_155 : decode cX7_room 155 = .ok (.istore 4, 2) := by decide +kernel
theorem dX7_room_157 : decode cX7_room 157 = .ok (.iinc 5 1, 3) := by decide +kernel
theorem dX7_room_160 : decode cX7_room 160 = .ok (.goto (-53), 3) := by decide +kernel
theorem dX7_room_163 : decode cX7_room 163 = .ok (.iload 4, 2) := by decide +kernel
theorem dX7_room_165 : decode cX7_room 165 = .ok (.ireturn, 1) := by decide +kernel
theorem dX7_comes_0 : decode cX7_comes 0 = .ok (.aload_n 0, 1) := by decide +kernel
theorem dX7_comes_1 : decode cX7_comes 1 = .ok (.getfield 7, 3) := by decide +kernel
theorem dX7_comes_4 : decode cX7_comes 4 = .ok (.iconst 0, 1) := by decide +kernel
theorem dX7_comes_5 : decode cX7_comes 5 = .ok (.iaload, 1) := by decide +kernel
theorem dX7_comes_6 : decode cX7_comes 6 = .ok (.istore_n 3, 1) := by decide +kernel
theorem dX7_comes_7 : decode cX7_comes 7 = .ok (.iconst 0, 1) := by decide +kernel
theorem dX7_comes_8 : decode cX7_comes 8 = .ok (.istore 4, 2) := by decide +kernel
theorem dX7_comes_10 : decode cX7_comes 10 = .ok (.iload 4, 2) := by decide +kernel
theorem dX7_comes_12 : decode cX7_comes 12 = .ok (.bipush 6, 2) := by decide +kernel
theorem dX7_comes_14 : decode cX7_comes 14 = .ok (.if_icmp .gt 17, 3) := by decide +kernel
theorem dX7_comes_17 : decode cX7_comes 17 = .ok (.aload_n 0, 1) := by decide +kernel
theorem dX7_comes_18 : decode cX7_comes 18 = .ok (.iload_n 3, 1) := by decide +kernel
theorem dX7_comes_19 : decode cX7_comes 19 = .ok (.iload 4, 2) := by decide +kernel
theorem dX7_comes_21 : decode cX7_comes 21 = .ok (.iconst 0, 1) := by decide +kernel
theorem dX7_comes_22 : decode cX7_comes 22 = .ok (.invokevirtual 90, 3) := by decide +kernel
theorem dX7_comes_25 : decode cX7_comes 25 = .ok (.iinc 4 1, 3) := by decide +kernel
theorem dX7_comes_28 : decode cX7_comes 28 = .ok (.goto (-18), 3) := by decide +kernel
theorem dX7_comes_31 : decode cX7_comes 31 = .ok (.aload_n 0, 1) := by decide +kernel
theorem dX7_comes_32 : decode cX7_comes 32 = .ok (.iload_n 3, 1) := by decide +kernel
theorem dX7_comes_33 : decode cX7_comes 33 = .ok (.iconst 0, 1) := by decide +kernel
theorem dX7_comes_34 : decode cX7_comes 34 = .ok (.iload_n 1, 1) := by decide +kernel
theorem dX7_comes_35 : decode cX7_comes 35 = .ok (.invokevirtual 90, 3) := by decide +kernel
theorem dX7_comes_38 : decode cX7_comes 38 = .ok (.aload_n 0, 1) := by decide +kernel
theorem dX7_comes_39 : decode cX7_comes 39 = .ok (.iload_n 3, 1) := by decide +kernel
theorem dX7_comes_40 : decode cX7_comes 40 = .ok (.iconst 1, 1) := by decide +kernel
theorem dX7_comes_41 : decode cX7_comes 41 = .ok (.iload_n 2, 1) := by decide +kernel
theorem dX7_comes_42 : decode cX7_comes 42 = .ok (.invokevirtual 90, 3) := by decide +kernel
theorem dX7_comes_45 : decode cX7_comes 45 = .ok (.aload_n 0, 1) := by decide +kernel
theorem dX7_comes_46 : decode cX7_comes 46 = .ok (.iload_n 3, 1) := by decide +kernel
theorem dX7_comes_47 : decode cX7_comes 47 = .ok (.iconst 2, 1) := by decide +kernel
theorem dX7_comes_48 : decode cX7_comes 48 = .ok (.iconst 5, 1) := by decide +kernel
theorem dX7_comes_49 : decode cX7_comes 49 = .ok (.invokevirtual 90, 3) := by decide +kernel
theorem dX7_comes_52 : decode cX7_comes 52 = .ok (.aload_n 0, 1) := by decide +kernel
theorem dX7_comes_53 : decode cX7_comes 53 = .ok (.getfield 7, 3) := by decide +kernel
theorem dX7_comes_56 : decode cX7_comes 56 = .ok (.iconst 0, 1) := by decide +kernel
theorem dX7_comes_57 : decode cX7_comes 57 = .ok (.dup2, 1) := by decide +kernel
theorem dX7_comes_58 : decode cX7_comes 58 = .ok (.iaload, 1) := by decide +kernel
theorem dX7_comes_59 : decode cX7_comes 59 = .ok (.iconst 1, 1) := by decide +kernel
theorem dX7_comes_60 : decode cX7_comes 60 = .ok (.iadd, 1) := by decide +kernel
theorem dX7_comes_61 : decode cX7_comes 61 = .ok (.iastore, 1) := by decide +kernel
theorem dX7_comes_62 : decode cX7_comes 62 = .ok (.iload_n 3, 1) := by decide +kernel
theorem dX7_comes_63 : decode cX7_comes 63 = .ok (.ireturn, 1) := by decide +kernel
theorem dX7_glove_0 : decode cX7_glove 0 = .ok (.iload_n 1, 1) := by decide +kernel
theorem dX7_glove_1 : decode cX7_glove 1 = .ok (.i2l, 1) := by decide +kernel
theorem dX7_glove_2 : decode cX7_glove 2 = .ok (.lconst 0, 1) := by decide +kernel
theorem dX7_glove_3 : decode cX7_glove 3 = .ok (.ldc2_w 133, 3) := by decide +kernel
theorem dX7_glove_6 : decode cX7_glove 6 = .ok (.invokestatic 42, 3) := by decide +kernel
theorem dX7_glove_9 : decode cX7_glove 9 = .ok (.ifCond .eq 10, 3) := by decide +kernel
theorem dX7_glove_12 : decode cX7_glove 12 = .ok (.iload_n 2, 1) := by decide +kernel
theorem dX7_glove_13 : decode cX7_glove 13 = .ok (.invokestatic 119, 3) := by decide +kernel
theorem dX7_glove_16 : decode cX7_glove 16 = .ok (.ifCond .ne 9, 3) := by decide +kernel
theorem dX7_glove_19 : decode cX7_glove 19 = .ok (.aload_n 0, 1) := by decide +kernel
theorem dX7_glove_20 : decode cX7_glove 20 = .ok (.iconst 0, 1) := by decide +kernel
theorem dX7_glove_21 : decode cX7_glove 21 = .ok (.invokevirtual 128, 3) := by decide +kernel
theorem dX7_glove_24 : decode cX7_glove 24 = .ok (.ireturn, 1) := by decide +kernel
theorem dX7_glove_25 : decode cX7_glove 25 = .ok (.aload_n 0, 1) := by decide +kernel
theorem dX7_glove_26 : decode cX7_glove 26 = .ok (.getfield 7, 3) := by decide +kernel
theorem dX7_glove_29 : decode cX7_glove 29 = .ok (.iconst 0, 1) := by decide +kernel
theorem dX7_glove_30 : decode cX7_glove 30 = .ok (.iaload, 1) := by decide +kernel
theorem dX7_glove_31 : decode cX7_glove 31 = .ok (.bipush 8, 2) := by decide +kernel
theorem dX7_glove_33 : decode cX7_glove 33 = .ok (.if_icmp .ne 11, 3) := by decide +kernel
theorem dX7_glove_36 : decode cX7_glove 36 = .ok (.aload_n 0, 1) := by decide +kernel
theorem dX7_glove_37 : decode cX7_glove 37 = .ok (.iconst 1, 1) := by decide +kernel
theorem dX7_glove_38 : decode cX7_glove 38 = .ok (.invokevirtual 128, 3) := by decide +kernel
theorem dX7_glove_41 : decode cX7_glove 41 = .ok (.goto 9, 3) := by decide +kernel
theorem dX7_glove_44 : decode cX7_glove 44 = .ok (.aload_n 0, 1) := by decide +kernel
theorem dX7_glove_45 : decode cX7_glove 45 = .ok (.iload_n 1, 1) := by decide +kernel
theorem dX7_glove_46 : decode cX7_glove 46 = .ok (.iload_n 2, 1) := by decide +kernel
theorem dX7_glove_47 : decode cX7_glove 47 = .ok (.invokevirtual 135, 3) := by decide +kernel
theorem dX7_glove_50 : decode cX7_glove 50 = .ok (.ireturn, 1) := by decide +kernel
theorem dX7_of_0 : decode cX7_of 0 = .ok (.aload_n 0, 1) := by decide +kernel
theorem dX7_of_1 : decode cX7_of 1 = .ok (.iload_n 1, 1) := by decide +kernel
theorem dX7_of_2 : decode cX7_of 2 = .ok (.invokevirtual 138, 3) := by decide +kernel
theorem dX7_of_5 : decode cX7_of 5 = .ok (.ifCond .eq 15, 3) := by decide +kernel
theorem dX7_of_8 : decode cX7_of 8 = .ok (.iload_n 2, 1) := by decide +kernel
theorem dX7_of_9 : decode cX7_of 9 = .ok (.i2l, 1) := by decide +kernel
theorem dX7_of_10 : decode cX7_of 10 = .ok (.lconst 0, 1) := by decide +kernel
theorem dX7_of_11 : decode cX7_of 11 = .ok (.ldc2_w 141, 3) := by decide +kernel
theorem dX7_of_14 : decode cX7_of 14 = .ok (.invokestatic 42, 3) := by decide +kernel
theorem dX7_of_17 : decode cX7_of 17 = .ok (.ifCond .ne 9, 3) := by decide +kernel
theorem dX7_of_20 : decode cX7_of 20 = .ok (.aload_n 0, 1) := by decide +kernel
theorem dX7_of_21 : decode cX7_of 21 = .ok (.iconst 0, 1) := by decide +kernel
theorem dX7_of_22 : decode cX7_of 22 = .ok (.invokevirtual 128, 3) := by decide +kernel
theorem dX7_of_25 : decode cX7_of 25 = .ok (.ireturn, 1) := by decide +kernel
theorem dX7_of_26 : decode cX7_of 26 = .ok (.iload_n 2, 1) := by decide +kernel
theorem dX7_of_27 : decode cX7_of 27 = .ok (.tableswitch 53 7 10 #[29, 35, 41, 47], 29) := by decide +kernel
theorem dX7_of_56 : decode cX7_of 56 = .ok (.aload_n 0, 1) := by decide +kernel
theorem dX7_of_57 : decode cX7_of 57 = .ok (.iload_n 1, 1) := by decide +kernel
theorem dX7_of_58 : decode cX7_of 58 = .ok (.invokevirtual 81, 3) := by decide +kernel
theorem dX7_of_61 : decode cX7_of 61 = .ok (.ireturn, 1) := by decide +kernel
theorem dX7_of_62 : decode cX7_of 62 = .ok (.aload_n 0, 1) := by decide +kernel
theorem dX7_of_63 : decode cX7_of 63 = .ok (.iload_n 1, 1) := by decide +kernel
theorem dX7_of_64 : decode cX7_of 64 = .ok (.invokevirtual 74, 3) := by decide +kernel
theorem dX7_of_67 : decode cX7_of 67 = .ok (.ireturn, 1) := by decide +kernel
theorem dX7_of_68 : decode cX7_of 68 = .ok (.aload_n 0, 1) := by decide +kernel
theorem dX7_of_69 : decode cX7_of 69 = .ok (.iload_n 1, 1) := by decide +kernel
theorem dX7_of_70 : decode cX7_of 70 = .ok (.invokevirtual 105, 3) := by decide +kernel
theorem dX7_of_73 : decode cX7_of 73 = .ok (.ireturn, 1) := by decide +kernel
theorem dX7_of_74 : decode cX7_of 74 = .ok (.aload_n 0, 1) := by decide +kernel
theorem dX7_of_75 : decode cX7_of 75 = .ok (.iload_n 1, 1) := by decide +kernel
theorem dX7_of_76 : decode cX7_of 76 = .ok (.invokevirtual 87, 3) := by decide +kernel
theorem dX7_of_79 : decode cX7_of 79 = .ok (.ireturn, 1) := by decide +kernel
theorem dX7_of_80 : decode cX7_of 80 = .ok (.aload_n 0, 1) := by decide +kernel
theorem dX7_of_81 : decode cX7_of 81 = .ok (.iload_n 1, 1) := by decide +kernel
theorem dX7_of_82 : decode cX7_of 82 = .ok (.iload_n 2, 1) := by decide +kernel
theorem dX7_of_83 : decode cX7_of 83 = .ok (.invokevirtual 58, 3) := by decide +kernel
theorem dX7_of_86 : decode cX7_of 86 = .ok (.ireturn, 1) := by decide +kernel
theorem dX7_mostOf_0 : decode cX7_mostOf 0 = .ok (.iload_n 0, 1) := by decide +kernel
theorem dX7_mostOf_1 : decode cX7_mostOf 1 = .ok (.ifCond .ne 8, 3) := by decide +kernel
theorem dX7_mostOf_4 : decode cX7_mostOf 4 = .ok (.bipush 6, 2) := by decide +kernel
theorem dX7_mostOf_6 : decode cX7_mostOf 6 = .ok (.goto 40, 3) := by decide +kernel
theorem dX7_mostOf_9 : decode cX7_mostOf 9 = .ok (.iload_n 0, 1) := by decide +kernel
theorem dX7_mostOf_10 : decode cX7_mostOf 10 = .ok (.iconst 1, 1) := by decide +kernel
theorem dX7_mostOf_11 : decode cX7_mostOf 11 = .ok (.if_icmp .ne 7, 3) := by decide +kernel
theorem dX7_mostOf_14 : decode cX7_mostOf 14 = .ok (.iconst 5, 1) := by decide +kernel
theorem dX7_mostOf_15 : decode cX7_mostOf 15 = .ok (.goto 31, 3) := by decide +kernel
theorem dX7_mostOf_18 : decode cX7_mostOf 18 = .ok (.iload_n 0, 1) := by decide +kernel
theorem dX7_mostOf_19 : decode cX7_mostOf 19 = .ok (.iconst 2, 1) := by decide +kernel
theorem dX7_mostOf_20 : decode cX7_mostOf 20 = .ok (.if_icmp .ne 8, 3) := by decide +kernel
theorem dX7_mostOf_23 : decode cX7_mostOf 23 = .ok (.bipush 9, 2) := by decide +kernel
theorem dX7_mostOf_25 : decode cX7_mostOf 25 = .ok (.goto 21, 3) := by decide +kernel
theorem dX7_mostOf_28 : decode cX7_mostOf 28 = .ok (.iload_n 0, 1) := by decide +kernel
theorem dX7_mostOf_29 : decode cX7_mostOf 29 = .ok (.iconst 3, 1) := by decide +kernel
theorem dX7_mostOf_30 : decode cX7_mostOf 30 = .ok (.if_icmp .eq 8, 3) := by decide +kernel
theorem dX7_mostOf_33 : decode cX7_mostOf 33 = .ok (.iload_n 0, 1) := by decide +kernel
theorem dX7_mostOf_34 : decode cX7_mostOf 34 = .ok (.iconst 5, 1) := by decide +kernel
theorem dX7_mostOf_35 : decode cX7_mostOf 35 = .ok (.if_icmp .ne 8, 3) := by decide +kernel
theorem dX7_mostOf_38 : decode cX7_mostOf 38 = .ok (.ldc 143, 2) := by decide +kernel
theorem dX7_mostOf_40 : decode cX7_mostOf 40 = .ok (.goto 6, 3) := by decide +kernel
theorem dX7_mostOf_43 : decode cX7_mostOf 43 = .ok (.sipush 9999, 3) := by decide +kernel
theorem dX7_mostOf_46 : decode cX7_mostOf 46 = .ok (.ireturn, 1) := by decide +kernel
theorem dX7_change_0 : decode cX7_change 0 = .ok (.aload_n 0, 1) := by decide +kernel
theorem dX7_change_1 : decode cX7_change 1 = .ok (.iload_n 1, 1) := by decide +kernel
theorem dX7_change_2 : decode cX7_change 2 = .ok (.invokevirtual 138, 3) := by decide +kernel
theorem dX7_change_5 : decode cX7_change 5 = .ok (.ifCond .eq 46, 3) := by decide +kernel
theorem dX7_change_8 : decode cX7_change 8 = .ok (.iload_n 2, 1) := by decide +kernel
theorem dX7_change_9 : decode cX7_change 9 = .ok (.i2l, 1) := by decide +kernel
theorem dX7_change_10 : decode cX7_change 10 = .ok (.lconst 0, 1) := by decide +kernel
theorem dX7_change_11 : decode cX7_change 11 = .ok (.ldc2_w 133, 3) := by decide +kernel
theorem dX7_change_14 : decode cX7_change 14 = .ok (.invokestatic 42, 3) := by decide +kernel
theorem dX7_change_17 : decode cX7_change 17 = .ok (.ifCond .eq 34, 3) := by decide +kernel
theorem dX7_change_20 : decode cX7_change 20 = .ok (.iload_n 3, 1) := by decide +kernel
theorem dX7_change_21 : decode cX7_change 21 = .ok (.i2l, 1) := by decide +kernel
theorem dX7_change_22 : decode cX7_change 22 = .ok (.lconst 0, 1) := by decide +kernel
theorem dX7_change_23 : decode cX7_change 23 = .ok (.iload_n 2, 1) := by decide +kernel
theorem dX7_change_24 : decode cX7_change 24 = .ok (.invokestatic 144, 3) := by decide +kernel
theorem dX7_change_27 : decode cX7_change 27 = .ok (.i2l, 1) := by decide +kernel
theorem dX7_change_28 : decode cX7_change 28 = .ok (.invokestatic 42, 3) := by decide +kernel
theorem dX7_change_31 : decode cX7_change 31 = .ok (.ifCond .eq 20, 3) := by decide +kernel
theorem dX7_change_34 : decode cX7_change 34 = .ok (.aload_n 0, 1) := by decide +kernel
theorem dX7_change_35 : decode cX7_change 35 = .ok (.bipush 9, 2) := by decide +kernel
theorem dX7_change_37 : decode cX7_change 37 = .ok (.bipush 8, 2) := by decide +kernel
theorem dX7_change_39 : decode cX7_change 39 = .ok (.iload_n 2, 1) := by decide +kernel
theorem dX7_change_40 : decode cX7_change 40 = .ok (.imul, 1) := by decide +kernel
theorem dX7_change_41 : decode cX7_change 41 = .ok (.iadd, 1) := by decide +kernel
theorem dX7_change_42 : decode cX7_change 42 = .ok (.iload_n 1, 1) := by decide +kernel
theorem dX7_change_43 : decode cX7_change 43 = .ok (.iadd, 1) := by decide +kernel
theorem dX7_change_44 : decode cX7_change 44 = .ok (.iload_n 3, 1) := by decide +kernel
theorem dX7_change_45 : decode cX7_change 45 = .ok (.invokevirtual 125, 3) := by decide +kernel
theorem dX7_change_48 : decode cX7_change 48 = .ok (.goto 8, 3) := by decide +kernel
theorem dX7_change_51 : decode cX7_change 51 = .ok (.aload_n 0, 1) := by decide +kernel
theorem dX7_change_52 : decode cX7_change 52 = .ok (.iconst 0, 1) := by decide +kernel
theorem dX7_change_53 : decode cX7_change 53 = .ok (.invokevirtual 128, 3) := by decide +kernel
theorem dX7_change_56 : decode cX7_change 56 = .ok (.ireturn, 1) := by decide +kernel
theorem dX7_draw_0 : decode cX7_draw 0 = .ok (.aload_n 0, 1) := by decide +kernel
theorem dX7_draw_1 : decode cX7_draw 1 = .ok (.iload_n 1, 1) := by decide +kernel
theorem dX7_draw_2 : decode cX7_draw 2 = .ok (.invokevirtual 138, 3) := by decide +kernel
theorem dX7_draw_5 : decode cX7_draw 5 = .ok (.ifCond .ne 9, 3) := by decide +kernel
theorem dX7_draw_8 : decode cX7_draw 8 = .ok (.aload_n 0, 1) := by decide +kernel
theorem dX7_draw_9 : decode cX7_draw 9 = .ok (.iconst 0, 1) := by decide +kernel
theorem dX7_draw_10 : decode cX7_draw 10 = .ok (.invokevirtual 128, 3) := by decide +kernel
theorem dX7_draw_13 : decode cX7_draw 13 = .ok (.ireturn, 1) := by decide +kernel
theorem dX7_draw_14 : decode cX7_draw 14 = .ok (.aload_n 0, 1) := by decide +kernel
theorem dX7_draw_15 : decode cX7_draw 15 = .ok (.iload_n 1, 1) := by decide +kernel
theorem dX7_draw_16 : decode cX7_draw 16 = .ok (.invokevirtual 105, 3) := by decide +kernel
theorem dX7_draw_19 : decode cX7_draw 19 = .ok (.ifCond .ne 9, 3) := by decide +kernel
theorem dX7_draw_22 : decode cX7_draw 22 = .ok (.aload_n 0, 1) := by decide +kernel
theorem dX7_draw_23 : decode cX7_draw 23 = .ok (.iconst 4, 1) := by decide +kernel
theorem dX7_draw_24 : decode cX7_draw 24 = .ok (.invokevirtual 128, 3) := by decide +kernel
theorem dX7_draw_27 : decode cX7_draw 27 = .ok (.ireturn, 1) := by decide +kernel
theorem dX7_draw_28 : decode cX7_draw 28 = .ok (.aload_n 0, 1) := by decide +kernel
theorem dX7_draw_29 : decode cX7_draw 29 = .ok (.iload_n 1, 1) := by decide +kernel
theorem dX7_draw_30 : decode cX7_draw 30 = .ok (.invokevirtual 108, 3) := by decide +kernel
theorem dX7_draw_33 : decode cX7_draw 33 = .ok (.aload_n 0, 1) := by decide +kernel
theorem dX7_draw_34 : decode cX7_draw 34 = .ok (.iload_n 1, 1) := by decide +kernel
theorem dX7_draw_35 : decode cX7_draw 35 = .ok (.iconst 5, 1) := by decide +kernel
theorem dX7_draw_36 : decode cX7_draw 36 = .ok (.invokevirtual 58, 3) := by decide +kernel
theorem dX7_draw_39 : decode cX7_draw 39 = .ok (.ireturn, 1) := by decide +kernel
theorem dX7_who_0 : decode cX7_who 0 = .ok (.iload_n 1, 1) := by decide +kernel
theorem dX7_who_1 : decode cX7_who 1 = .ok (.invokestatic 147, 3) := by decide +kernel
theorem dX7_who_4 : decode cX7_who 4 = .ok (.ifCond .eq 13, 3) := by decide +kernel
theorem dX7_who_7 : decode cX7_who 7 = .ok (.iload_n 2, 1) := by decide +kernel
theorem dX7_who_8 : decode cX7_who 8 = .ok (.i2l, 1) := by decide +kernel
theorem dX7_who_9 : decode cX7_who 9 = .ok (.lconst 0, 1) := by decide +kernel
theorem dX7_who_10 : decode cX7_who 10 = .ok (.lconst 1, 1) := by decide +kernel
theorem dX7_who_11 : decode cX7_who 11 = .ok (.invokestatic 42, 3) := by decide +kernel
theorem dX7_who_14 : decode cX7_who 14 = .ok (.ifCond .ne 9, 3) := by decide +kernel
theorem dX7_who_17 : decode cX7_who 17 = .ok (.aload_n 0, 1) := by decide +kernel
theorem dX7_who_18 : decode cX7_who 18 = .ok (.iconst 0, 1) := by decide +kernel
theorem dX7_who_19 : decode cX7_who 19 = .ok (.invokevirtual 128, 3) := by decide +kernel
theorem dX7_who_22 : decode cX7_who 22 = .ok (.ireturn, 1) := by decide +kernel
theorem dX7_who_23 : decode cX7_who 23 = .ok (.iconst 0, 1) := by decide +kernel
theorem dX7_who_24 : decode cX7_who 24 = .ok (.istore_n 3, 1) := by decide +kernel
theorem dX7_who_25 : decode cX7_who 25 = .ok (.iconst 0, 1) := by decide +kernel
theorem dX7_who_26 : decode cX7_who 26 = .ok (.istore 4, 2) := by decide +kernel
theorem dX7_who_28 : decode cX7_who 28 = .ok (.iload 4, 2) := by decide +kernel
theorem dX7_who_30 : decode cX7_who 30 = .ok (.aload_n 0, 1) := by decide +kernel
theorem dX7_who_31 : decode cX7_who 31 = .ok (.getfield 7, 3) := by decide +kernel
theorem dX7_who_34 : decode cX7_who 34 = .ok (.iconst 0, 1) := by decide +kernel
theorem dX7_who_35 : decode cX7_who 35 = .ok (.iaload, 1) := by decide +kernel
theorem dX7_who_36 : decode cX7_who 36 = .ok (.if_icmp .ge 34, 3) := by decide +kernel
theorem dX7_who_39 : decode cX7_who 39 = .ok (.iload_n 3, 1) := by decide +kernel
theorem dX7_who_40 : decode cX7_who 40 = .ok (.aload_n 0, 1) := by decide +kernel
theorem dX7_who_41 : decode cX7_who 41 = .ok (.iload 4, 2) := by decide +kernel
theorem dX7_who_43 : decode cX7_who 43 = .ok (.iload_n 2, 1) := by decide +kernel
theorem dX7_who_44 : decode cX7_who 44 = .ok (.ifCond .ne 7, 3) := by decide +kernel
theorem dX7_who_47 : decode cX7_who 47 = .ok (.iconst 3, 1) := by decide +kernel
theorem dX7_who_48 : decode cX7_who 48 = .ok (.goto 4, 3) := by decide +kernel
theorem dX7_who_51 : decode cX7_who 51 = .ok (.iconst 5, 1) := by decide +kernel
theorem dX7_who_52 : decode cX7_who 52 = .ok (.invokevirtual 58, 3) := by decide +kernel
theorem dX7_who_55 : decode cX7_who 55 = .ok (.iload_n 1, 1) := by decide +kernel
theorem dX7_who_56 : decode cX7_who 56 = .ok (.ishr, 1) := by decide +kernel
theorem dX7_who_57 : decode cX7_who 57 = .ok (.iconst 1, 1) := by decide +kernel
theorem dX7_who_58 : decode cX7_who 58 = .ok (.iand, 1) := by decide +kernel
theorem dX7_who_59 : decode cX7_who 59 = .ok (.iload 4, 2) := by decide +kernel
theorem dX7_who_61 : decode cX7_who 61 = .ok (.ishl, 1) := by decide +kernel
theorem dX7_who_62 : decode cX7_who 62 = .ok (.ior, 1) := by decide +kernel
theorem dX7_who_63 : decode cX7_who 63 = .ok (.istore_n 3, 1) := by decide +kernel
theorem dX7_who_64 : decode cX7_who 64 = .ok (.iinc 4 1, 3) := by decide +kernel
theorem dX7_who_67 : decode cX7_who 67 = .ok (.goto (-39), 3) := by decide +kernel
theorem dX7_who_70 : decode cX7_who 70 = .ok (.iload_n 3, 1) := by decide +kernel
theorem dX7_who_71 : decode cX7_who 71 = .ok (.ireturn, 1) := by decide +kernel
theorem dX7_go_0 : decode cX7_go 0 = .ok (.iload_n 1, 1) := by decide +kernel
theorem dX7_go_1 : decode cX7_go 1 = .ok (.i2l, 1) := by decide +kernel
theorem dX7_go_2 : decode cX7_go 2 = .ok (.lconst 1, 1) := by decide +kernel
theorem dX7_go_3 : decode cX7_go 3 = .ok (.ldc2_w 150, 3) := by decide +kernel
theorem dX7_go_6 : decode cX7_go 6 = .ok (.invokestatic 42, 3) := by decide +kernel
theorem dX7_go_9 : decode cX7_go 9 = .ok (.ifCond .ne 9, 3) := by decide +kernel
theorem dX7_go_12 : decode cX7_go 12 = .ok (.aload_n 0, 1) := by decide +kernel
theorem dX7_go_13 : decode cX7_go 13 = .ok (.iconst 0, 1) := by decide +kernel
theorem dX7_go_14 : decode cX7_go 14 = .ok (.invokevirtual 128, 3) := by decide +kernel
theorem dX7_go_17 : decode cX7_go 17 = .ok (.ireturn, 1) := by decide +kernel
theorem dX7_go_18 : decode cX7_go 18 = .ok (.aload_n 0, 1) := by decide +kernel
theorem dX7_go_19 : decode cX7_go 19 = .ok (.getfield 7, 3) := by decide +kernel
theorem dX7_go_22 : decode cX7_go 22 = .ok (.iconst 1, 1) := by decide +kernel
theorem dX7_go_23 : decode cX7_go 23 = .ok (.iaload, 1) := by decide +kernel
theorem dX7_go_24 : decode cX7_go 24 = .ok (.iload_n 1, 1) := by decide +kernel
theorem dX7_go_25 : decode cX7_go 25 = .ok (.iadd, 1) := by decide +kernel
theorem dX7_go_26 : decode cX7_go 26 = .ok (.ldc 112, 2) := by decide +kernel
theorem dX7_go_28 : decode cX7_go 28 = .ok (.if_icmp .le 9, 3) := by decide +kernel
theorem dX7_go_31 : decode cX7_go 31 = .ok (.aload_n 0, 1) := by decide +kernel
theorem dX7_go_32 : decode cX7_go 32 = .ok (.iconst 4, 1) := by decide +kernel
theorem dX7_go_33 : decode cX7_go 33 = .ok (.invokevirtual 128, 3) := by decide +kernel
theorem dX7_go_36 : decode cX7_go 36 = .ok (.ireturn, 1) := by decide +kernel
theorem dX7_go_37 : decode cX7_go 37 = .ok (.aload_n 0, 1) := by decide +kernel
theorem dX7_go_38 : decode cX7_go 38 = .ok (.iload_n 1, 1) := by decide +kernel
theorem dX7_go_39 : decode cX7_go 39 = .ok (.invokevirtual 152, 3) := by decide +kernel
theorem dX7_go_42 : decode cX7_go 42 = .ok (.aload_n 0, 1) := by decide +kernel
theorem dX7_go_43 : decode cX7_go 43 = .ok (.invokevirtual 155, 3) := by decide +kernel
theorem dX7_go_46 : decode cX7_go 46 = .ok (.ireturn, 1) := by decide +kernel
theorem dX7_wisest_0 : decode cX7_wisest 0 = .ok (.iconst (-1), 1) := by decide +kernel
theorem dX7_wisest_1 : decode cX7_wisest 1 = .ok (.istore_n 1, 1) := by decide +kernel
theorem dX7_wisest_2 : decode cX7_wisest 2 = .ok (.iconst 0, 1) := by decide +kernel
theorem dX7_wisest_3 : decode cX7_wisest 3 = .ok (.istore_n 2, 1) := by decide +kernel
theorem dX7_wisest_4 : decode cX7_wisest 4 = .ok (.iload_n 2, 1) := by decide +kernel
theorem dX7_wisest_5 : decode cX7_wisest 5 = .ok (.aload_n 0, 1) := by decide +kernel
theorem dX7_wisest_6 : decode cX7_wisest 6 = .ok (.getfield 7, 3) := by decide +kernel
theorem dX7_wisest_9 : decode cX7_wisest 9 = .ok (.iconst 0, 1) := by decide +kernel
theorem dX7_wisest_10 : decode cX7_wisest 10 = .ok (.iaload, 1) := by decide +kernel
theorem dX7_wisest_11 : decode cX7_wisest 11 = .ok (.if_icmp .ge 40, 3) := by decide +kernel
theorem dX7_wisest_14 : decode cX7_wisest 14 = .ok (.iload_n 1, 1) := by decide +kernel
theorem dX7_wisest_15 : decode cX7_wisest 15 = .ok (.ifCond .lt 24, 3) := by decide +kernel
theorem dX7_wisest_18 : decode cX7_wisest 18 = .ok (.aload_n 0, 1) := by decide +kernel
theorem dX7_wisest_19 : decode cX7_wisest 19 = .ok (.iload_n 2, 1) := by decide +kernel
theorem dX7_wisest_20 : decode cX7_wisest 20 = .ok (.iconst 5, 1) := by decide +kernel
theorem dX7_wisest_21 : decode cX7_wisest 21 = .ok (.invokevirtual 58, 3) := by decide +kernel
theorem dX7_wisest_24 : decode cX7_wisest 24 = .ok (.invokestatic 84, 3) := by decide +kernel
theorem dX7_wisest_27 : decode cX7_wisest 27 = .ok (.aload_n 0, 1) := by decide +kernel
theorem dX7_wisest_28 : decode cX7_wisest 28 = .ok (.iload_n 1, 1) := by decide +kernel
theorem dX7_wisest_29 : decode cX7_wisest 29 = .ok (.iconst 5, 1) := by decide +kernel
theorem dX7_wisest_30 : decode cX7_wisest 30 = .ok (.invokevirtual 58, 3) := by decide +kernel
theorem dX7_wisest_33 : decode cX7_wisest 33 = .ok (.invokestatic 84, 3) := by decide +kernel
theorem dX7_wisest_36 : decode cX7_wisest 36 = .ok (.if_icmp .le 7, 3) := by decide +kernel
theorem dX7_wisest_39 : decode cX7_wisest 39 = .ok (.iload_n 2, 1) := by decide +kernel
theorem dX7_wisest_40 : decode cX7_wisest 40 = .ok (.goto 4, 3) := by decide +kernel
theorem dX7_wisest_43 : decode cX7_wisest 43 = .ok (.iload_n 1, 1) := by decide +kernel
theorem dX7_wisest_44 : decode cX7_wisest 44 = .ok (.istore_n 1, 1) := by decide +kernel
theorem dX7_wisest_45 : decode cX7_wisest 45 = .ok (.iinc 2 1, 3) := by decide +kernel
theorem dX7_wisest_48 : decode cX7_wisest 48 = .ok (.goto (-44), 3) := by decide +kernel
theorem dX7_wisest_51 : decode cX7_wisest 51 = .ok (.iload_n 1, 1) := by decide +kernel
theorem dX7_wisest_52 : decode cX7_wisest 52 = .ok (.ireturn, 1) := by decide +kernel
theorem dX7_now_0 : decode cX7_now 0 = .ok (.iload_n 1, 1) := by decide +kernel
theorem dX7_now_1 : decode cX7_now 1 = .ok (.tableswitch 94 0 6 #[43, 50, 55, 60, 75, 80, 85], 43) := by decide +kernel
theorem dX7_now_44 : decode cX7_now 44 = .ok (.aload_n 0, 1) := by decide +kernel
theorem dX7_now_45 : decode cX7_now 45 = .ok (.getfield 7, 3) := by decide +kernel
theorem dX7_now_48 : decode cX7_now 48 = .ok (.iconst 1, 1) := by decide +kernel
theorem dX7_now_49 : decode cX7_now 49 = .ok (.iaload, 1) := by decide +kernel
theorem dX7_now_50 : decode cX7_now 50 = .ok (.ireturn, 1) := by decide +kernel
theorem dX7_now_51 : decode cX7_now 51 = .ok (.aload_n 0, 1) := by decide +kernel
theorem dX7_now_52 : decode cX7_now 52 = .ok (.invokevirtual 155, 3) := by decide +kernel
theorem dX7_now_55 : decode cX7_now 55 = .ok (.ireturn, 1) := by decide +kernel
theorem dX7_now_56 : decode cX7_now 56 = .ok (.aload_n 0, 1) := by decide +kernel
theorem dX7_now_57 : decode cX7_now 57 = .ok (.invokevirtual 158, 3) := by decide +kernel
theorem dX7_now_60 : decode cX7_now 60 = .ok (.ireturn, 1) := by decide +kernel
theorem dX7_now_61 : decode cX7_now 61 = .ok (.ldc 143, 2) := by decide +kernel
theorem dX7_now_63 : decode cX7_now 63 = .ok (.aload_n 0, 1) := by decide +kernel
theorem dX7_now_64 : decode cX7_now 64 = .ok (.invokevirtual 155, 3) := by decide +kernel
theorem dX7_now_67 : decode cX7_now 67 = .ok (.aload_n 0, 1) := by decide +kernel
theorem dX7_now_68 : decode cX7_now 68 = .ok (.invokevirtual 158, 3) := by decide +kernel
theorem dX7_now_71 : decode cX7_now 71 = .ok (.ior, 1) := by decide +kernel
theorem dX7_now_72 : decode cX7_now 72 = .ok (.iconst (-1), 1) := by decide +kernel
theorem dX7_now_73 : decode cX7_now 73 = .ok (.ixor, 1) := by decide +kernel
theorem dX7_now_74 : decode cX7_now 74 = .ok (.iand, 1) := by decide +kernel
theorem dX7_now_75 : decode cX7_now 75 = .ok (.ireturn, 1) := by decide +kernel
theorem dX7_now_76 : decode cX7_now 76 = .ok (.aload_n 0, 1) := by decide +kernel
theorem dX7_now_77 : decode cX7_now 77 = .ok (.invokevirtual 161, 3) := by decide +kernel
theorem dX7_now_80 : decode cX7_now 80 = .ok (.ireturn, 1) := by decide +kernel
theorem dX7_now_81 : decode cX7_now 81 = .ok (.aload_n 0, 1) := by decide +kernel
theorem dX7_now_82 : decode cX7_now 82 = .ok (.invokevirtual 164, 3) := by decide +kernel
theorem dX7_now_85 : decode cX7_now 85 = .ok (.ireturn, 1) := by decide +kernel
theorem dX7_now_86 : decode cX7_now 86 = .ok (.aload_n 0, 1) := by decide +kernel
theorem dX7_now_87 : decode cX7_now 87 = .ok (.aload_n 0, 1) := by decide +kernel
theorem dX7_now_88 : decode cX7_now 88 = .ok (.invokevirtual 94, 3) := by decide +kernel
theorem dX7_now_91 : decode cX7_now 91 = .ok (.invokevirtual 98, 3) := by decide +kernel
theorem dX7_now_94 : decode cX7_now 94 = .ok (.ireturn, 1) := by decide +kernel
theorem dX7_now_95 : decode cX7_now 95 = .ok (.aload_n 0, 1) := by decide +kernel
theorem dX7_now_96 : decode cX7_now 96 = .ok (.iconst 0, 1) := by decide +kernel
theorem dX7_now_97 : decode cX7_now 97 = .ok (.invokevirtual 128, 3) := by decide +kernel
theorem dX7_now_100 : decode cX7_now 100 = .ok (.ireturn, 1) := by decide +kernel
theorem dX7_behind_0 : decode cX7_behind 0 = .ok (.aload_n 0, 1) := by decide +kernel
theorem dX7_behind_1 : decode cX7_behind 1 = .ok (.iload_n 1, 1) := by decide +kernel
theorem dX7_behind_2 : decode cX7_behind 2 = .ok (.invokevirtual 152, 3) := by decide +kernel
theorem dX7_behind_5 : decode cX7_behind 5 = .ok (.aload_n 0, 1) := by decide +kernel
theorem dX7_behind_6 : decode cX7_behind 6 = .ok (.getfield 7, 3) := by decide +kernel
theorem dX7_behind_9 : decode cX7_behind 9 = .ok (.iload_n 2, 1) := by decide +kernel
theorem dX7_behind_10 : decode cX7_behind 10 = .ok (.iaload, 1) := by decide +kernel
theorem dX7_behind_11 : decode cX7_behind 11 = .ok (.istore_n 3, 1) := by decide +kernel
theorem dX7_behind_12 : decode cX7_behind 12 = .ok (.aload_n 0, 1) := by decide +kernel
theorem dX7_behind_13 : decode cX7_behind 13 = .ok (.getfield 16, 3) := by decide +kernel
theorem dX7_behind_16 : decode cX7_behind 16 = .ok (.aload_n 0, 1) := by decide +kernel
theorem dX7_behind_17 : decode cX7_behind 17 = .ok (.getfield 7, 3) := by decide +kernel
theorem dX7_behind_20 : decode cX7_behind 20 = .ok (.invokestatic 167, 3) := by decide +kernel
theorem dX7_behind_23 : decode cX7_behind 23 = .ok (.iload_n 3, 1) := by decide +kernel
theorem dX7_behind_24 : decode cX7_behind 24 = .ok (.ireturn, 1) := by decide +kernel
theorem dX7_ahead_0 : decode cX7_ahead 0 = .ok (.aload_n 0, 1) := by decide +kernel
theorem dX7_ahead_1 : decode cX7_ahead 1 = .ok (.iload_n 1, 1) := by decide +kernel
theorem dX7_ahead_2 : decode cX7_ahead 2 = .ok (.invokevirtual 138, 3) := by decide +kernel
theorem dX7_ahead_5 : decode cX7_ahead 5 = .ok (.ifCond .eq 32, 3) := by decide +kernel
theorem dX7_ahead_8 : decode cX7_ahead 8 = .ok (.iload_n 2, 1) := by decide +kernel
theorem dX7_ahead_9 : decode cX7_ahead 9 = .ok (.i2l, 1) := by decide +kernel
theorem dX7_ahead_10 : decode cX7_ahead 10 = .ok (.lconst 1, 1) := by decide +kernel
theorem dX7_ahead_11 : decode cX7_ahead 11 = .ok (.ldc2_w 133, 3) := by decide +kernel
theorem dX7_ahead_14 : decode cX7_ahead 14 = .ok (.invokestatic 42, 3) := by decide +kernel
theorem dX7_ahead_17 : decode cX7_ahead 17 = .ok (.ifCond .eq 20, 3) := by decide +kernel
theorem dX7_ahead_20 : decode cX7_ahead 20 = .ok (.iload_n 2, 1) := by decide +kernel
theorem dX7_ahead_21 : decode cX7_ahead 21 = .ok (.iconst 2, 1) := by decide +kernel
theorem dX7_ahead_22 : decode cX7_ahead 22 = .ok (.if_icmp .eq 15, 3) := by decide +kernel
theorem dX7_ahead_25 : decode cX7_ahead 25 = .ok (.iload_n 3, 1) := by decide +kernel
theorem dX7_ahead_26 : decode cX7_ahead 26 = .ok (.i2l, 1) := by decide +kernel
theorem dX7_ahead_27 : decode cX7_ahead 27 = .ok (.lconst 0, 1) := by decide +kernel
theorem dX7_ahead_28 : decode cX7_ahead 28 = .ok (.ldc2_w 171, 3) := by decide +kernel
theorem dX7_ahead_31 : decode cX7_ahead 31 = .ok (.invokestatic 42, 3) := by decide +kernel
theorem dX7_ahead_34 : decode cX7_ahead 34 = .ok (.ifCond .ne 9, 3) := by decide +kernel
theorem dX7_ahead_37 : decode cX7_ahead 37 = .ok (.aload_n 0, 1) := by decide +kernel
theorem dX7_ahead_38 : decode cX7_ahead 38 = .ok (.iconst 0, 1) := by decide +kernel
theorem dX7_ahead_39 : decode cX7_ahead 39 = .ok (.invokevirtual 128, 3) := by decide +kernel
theorem dX7_ahead_42 : decode cX7_ahead 42 = .ok (.ireturn, 1) := by decide +kernel
theorem dX7_ahead_43 : decode cX7_ahead 43 = .ok (.aload_n 0, 1) := by decide +kernel
theorem dX7_ahead_44 : decode cX7_ahead 44 = .ok (.getfield 7, 3) := by decide +kernel
theorem dX7_ahead_47 : decode cX7_ahead 47 = .ok (.aload_n 0, 1) := by decide +kernel
theorem dX7_ahead_48 : decode cX7_ahead 48 = .ok (.getfield 16, 3) := by decide +kernel
theorem dX7_ahead_51 : decode cX7_ahead 51 = .ok (.invokestatic 167, 3) := by decide +kernel
theorem dX7_ahead_54 : decode cX7_ahead 54 = .ok (.aload_n 0, 1) := by decide +kernel
theorem dX7_ahead_55 : decode cX7_ahead 55 = .ok (.iload_n 3, 1) := by decide +kernel
theorem dX7_ahead_56 : decode cX7_ahead 56 = .ok (.bipush 9, 2) := by decide +kernel
theorem dX7_ahead_58 : decode cX7_ahead 58 = .ok (.bipush 8, 2) := by decide +kernel
theorem dX7_ahead_60 : decode cX7_ahead 60 = .ok (.iload_n 2, 1) := by decide +kernel
theorem dX7_ahead_61 : decode cX7_ahead 61 = .ok (.imul, 1) := by decide +kernel
theorem dX7_ahead_62 : decode cX7_ahead 62 = .ok (.iadd, 1) := by decide +kernel
theorem dX7_ahead_63 : decode cX7_ahead 63 = .ok (.iload_n 1, 1) := by decide +kernel
theorem dX7_ahead_64 : decode cX7_ahead 64 = .ok (.iadd, 1) := by decide +kernel
theorem dX7_ahead_65 : decode cX7_ahead 65 = .ok (.invokevirtual 173, 3) := by decide +kernel
theorem dX7_ahead_68 : decode cX7_ahead 68 = .ok (.ireturn, 1) := by decide +kernel
theorem dX7_hears_0 : decode cX7_hears 0 = .ok (.aload_n 0, 1) := by decide +kernel
theorem dX7_hears_1 : decode cX7_hears 1 = .ok (.iload_n 1, 1) := by decide +kernel
theorem dX7_hears_2 : decode cX7_hears 2 = .ok (.invokevirtual 138, 3) := by decide +kernel
theorem dX7_hears_5 : decode cX7_hears 5 = .ok (.ifCond .eq 10, 3) := by decide +kernel
theorem dX7_hears_8 : decode cX7_hears 8 = .ok (.iload_n 2, 1) := by decide +kernel
theorem dX7_hears_9 : decode cX7_hears 9 = .ok (.invokestatic 147, 3) := by decide +kernel
theorem dX7_hears_12 : decode cX7_hears 12 = .ok (.ifCond .ne 9, 3) := by decide +kernel
theorem dX7_hears_15 : decode cX7_hears 15 = .ok (.aload_n 0, 1) := by decide +kernel
theorem dX7_hears_16 : decode cX7_hears 16 = .ok (.iconst 0, 1) := by decide +kernel
theorem dX7_hears_17 : decode cX7_hears 17 = .ok (.invokevirtual 128, 3) := by decide +kernel
theorem dX7_hears_20 : decode cX7_hears 20 = .ok (.ireturn, 1) := by decide +kernel
theorem dX7_hears_21 : decode cX7_hears 21 = .ok (.aload_n 0, 1) := by decide +kernel
theorem dX7_hears_22 : decode cX7_hears 22 = .ok (.getfield 7, 3) := by decide +kernel
theorem dX7_hears_25 : decode cX7_hears 25 = .ok (.aload_n 0, 1) := by decide +kernel
theorem dX7_hears_26 : decode cX7_hears 26 = .ok (.getfield 16, 3) := by decide +kernel
theorem dX7_hears_29 : decode cX7_hears 29 = .ok (.invokestatic 167, 3) := by decide +kernel
theorem dX7_hears_32 : decode cX7_hears 32 = .ok (.iconst 0, 1) := by decide +kernel
theorem dX7_hears_33 : decode cX7_hears 33 = .ok (.istore_n 3, 1) := by decide +kernel
theorem dX7_hears_34 : decode cX7_hears 34 = .ok (.iload_n 3, 1) := by decide +kernel
theorem dX7_hears_35 : decode cX7_hears 35 = .ok (.sipush 200, 3) := by decide +kernel
theorem dX7_hears_38 : decode cX7_hears 38 = .ok (.if_icmp .ge 26, 3) := by decide +kernel
theorem dX7_hears_41 : decode cX7_hears 41 = .ok (.aload_n 0, 1) := by decide +kernel
theorem dX7_hears_42 : decode cX7_hears 42 = .ok (.iload_n 1, 1) := by decide +kernel
theorem dX7_hears_43 : decode cX7_hears 43 = .ok (.iconst 3, 1) := by decide +kernel
theorem dX7_hears_44 : decode cX7_hears 44 = .ok (.invokevirtual 58, 3) := by decide +kernel
theorem dX7_hears_47 : decode cX7_hears 47 = .ok (.iload_n 2, 1) := by decide +kernel
theorem dX7_hears_48 : decode cX7_hears 48 = .ok (.ishr, 1) := by decide +kernel
theorem dX7_hears_49 : decode cX7_hears 49 = .ok (.iconst 1, 1) := by decide +kernel
theorem dX7_hears_50 : decode cX7_hears 50 = .ok (.iand, 1) := by decide +kernel
theorem dX7_hears_51 : decode cX7_hears 51 = .ok (.ifCond .ne 13, 3) := by decide +kernel
theorem dX7_hears_54 : decode cX7_hears 54 = .ok (.aload_n 0, 1) := by decide +kernel
theorem dX7_hears_55 : decode cX7_hears 55 = .ok (.invokevirtual 113, 3) := by decide +kernel
theorem dX7_hears_58 : decode cX7_hears 58 = .ok (.iinc 3 1, 3) := by decide +kernel
theorem dX7_hears_61 : decode cX7_hears 61 = .ok (.goto (-27), 3) := by decide +kernel
theorem dX7_hears_64 : decode cX7_hears 64 = .ok (.aload_n 0, 1) := by decide +kernel
theorem dX7_hears_65 : decode cX7_hears 65 = .ok (.iload_n 1, 1) := by decide +kernel
theorem dX7_hears_66 : decode cX7_hears 66 = .ok (.iconst 3, 1) := by decide +kernel
theorem dX7_hears_67 : decode cX7_hears 67 = .ok (.invokevirtual 58, 3) := by decide +kernel
theorem dX7_hears_70 : decode cX7_hears 70 = .ok (.iload_n 2, 1) := by decide +kernel
theorem dX7_hears_71 : decode cX7_hears 71 = .ok (.ishr, 1) := by decide +kernel
theorem dX7_hears_72 : decode cX7_hears 72 = .ok (.iconst 1, 1) := by decide +kernel
theorem dX7_hears_73 : decode cX7_hears 73 = .ok (.iand, 1) := by decide +kernel
theorem dX7_hears_74 : decode cX7_hears 74 = .ok (.iconst 1, 1) := by decide +kernel
theorem dX7_hears_75 : decode cX7_hears 75 = .ok (.if_icmp .ne 7, 3) := by decide +kernel
theorem dX7_hears_78 : decode cX7_hears 78 = .ok (.iconst 1, 1) := by decide +kernel
theorem dX7_hears_79 : decode cX7_hears 79 = .ok (.goto 4, 3) := by decide +kernel
theorem dX7_hears_82 : decode cX7_hears 82 = .ok (.iconst 0, 1) := by decide +kernel
theorem dX7_hears_83 : decode cX7_hears 83 = .ok (.istore 4, 2) := by decide +kernel
theorem dX7_hears_85 : decode cX7_hears 85 = .ok (.aload_n 0, 1) := by decide +kernel
theorem dX7_hears_86 : decode cX7_hears 86 = .ok (.getfield 16, 3) := by decide +kernel
theorem dX7_hears_89 : decode cX7_hears 89 = .ok (.aload_n 0, 1) := by decide +kernel
theorem dX7_hears_90 : decode cX7_hears 90 = .ok (.getfield 7, 3) := by decide +kernel
theorem dX7_hears_93 : decode cX7_hears 93 = .ok (.invokestatic 167, 3) := by decide +kernel
theorem dX7_hears_96 : decode cX7_hears 96 = .ok (.iload 4, 2) := by decide +kernel
theorem dX7_hears_98 : decode cX7_hears 98 = .ok (.ifCond .eq 7, 3) := by decide +kernel
theorem dX7_hears_101 : decode cX7_hears 101 = .ok (.iload_n 3, 1) := by decide +kernel
theorem dX7_hears_102 : decode cX7_hears 102 = .ok (.goto 8, 3) := by decide +kernel
theorem dX7_hears_105 : decode cX7_hears 105 = .ok (.aload_n 0, 1) := by decide +kernel
theorem dX7_hears_106 : decode cX7_hears 106 = .ok (.iconst 3, 1) := by decide +kernel
theorem dX7_hears_107 : decode cX7_hears 107 = .ok (.invokevirtual 128, 3) := by decide +kernel
theorem dX7_hears_110 : decode cX7_hears 110 = .ok (.ireturn, 1) := by decide +kernel
theorem dX7_wise_0 : decode cX7_wise 0 = .ok (.aload_n 0, 1) := by decide +kernel
theorem dX7_wise_1 : decode cX7_wise 1 = .ok (.iload_n 1, 1) := by decide +kernel
theorem dX7_wise_2 : decode cX7_wise 2 = .ok (.invokevirtual 138, 3) := by decide +kernel
theorem dX7_wise_5 : decode cX7_wise 5 = .ok (.ifCond .eq 15, 3) := by decide +kernel
theorem dX7_wise_8 : decode cX7_wise 8 = .ok (.iload_n 2, 1) := by decide +kernel
theorem dX7_wise_9 : decode cX7_wise 9 = .ok (.i2l, 1) := by decide +kernel
theorem dX7_wise_10 : decode cX7_wise 10 = .ok (.lconst 0, 1) := by decide +kernel
theorem dX7_wise_11 : decode cX7_wise 11 = .ok (.ldc2_w 176, 3) := by decide +kernel
theorem dX7_wise_14 : decode cX7_wise 14 = .ok (.invokestatic 42, 3) := by decide +kernel
theorem dX7_wise_17 : decode cX7_wise 17 = .ok (.ifCond .ne 9, 3) := by decide +kernel
theorem dX7_wise_20 : decode cX7_wise 20 = .ok (.aload_n 0, 1) := by decide +kernel
theorem dX7_wise_21 : decode cX7_wise 21 = .ok (.iconst 0, 1) := by decide +kernel
theorem dX7_wise_22 : decode cX7_wise 22 = .ok (.invokevirtual 128, 3) := by decide +kernel
theorem dX7_wise_25 : decode cX7_wise 25 = .ok (.ireturn, 1) := by decide +kernel
theorem dX7_wise_26 : decode cX7_wise 26 = .ok (.aload_n 0, 1) := by decide +kernel
theorem dX7_wise_27 : decode cX7_wise 27 = .ok (.getfield 7, 3) := by decide +kernel
theorem dX7_wise_30 : decode cX7_wise 30 = .ok (.aload_n 0, 1) := by decide +kernel
theorem dX7_wise_31 : decode cX7_wise 31 = .ok (.getfield 16, 3) := by decide +kernel
theorem dX7_wise_34 : decode cX7_wise 34 = .ok (.invokestatic 167, 3) := by decide +kernel
theorem dX7_wise_37 : decode cX7_wise 37 = .ok (.iconst 0, 1) := by decide +kernel
theorem dX7_wise_38 : decode cX7_wise 38 = .ok (.istore_n 3, 1) := by decide +kernel
theorem dX7_wise_39 : decode cX7_wise 39 = .ok (.iload_n 3, 1) := by decide +kernel
theorem dX7_wise_40 : decode cX7_wise 40 = .ok (.sipush 200, 3) := by decide +kernel
theorem dX7_wise_43 : decode cX7_wise 43 = .ok (.if_icmp .ge 26, 3) := by decide +kernel
theorem dX7_wise_46 : decode cX7_wise 46 = .ok (.aload_n 0, 1) := by decide +kernel
theorem dX7_wise_47 : decode cX7_wise 47 = .ok (.iload_n 1, 1) := by decide +kernel
theorem dX7_wise_48 : decode cX7_wise 48 = .ok (.iconst 5, 1) := by decide +kernel
theorem dX7_wise_49 : decode cX7_wise 49 = .ok (.invokevirtual 58, 3) := by decide +kernel
theorem dX7_wise_52 : decode cX7_wise 52 = .ok (.invokestatic 84, 3) := by decide +kernel
theorem dX7_wise_55 : decode cX7_wise 55 = .ok (.iload_n 2, 1) := by decide +kernel
theorem dX7_wise_56 : decode cX7_wise 56 = .ok (.if_icmp .ge 13, 3) := by decide +kernel
theorem dX7_wise_59 : decode cX7_wise 59 = .ok (.aload_n 0, 1) := by decide +kernel
theorem dX7_wise_60 : decode cX7_wise 60 = .ok (.invokevirtual 113, 3) := by decide +kernel
theorem dX7_wise_63 : decode cX7_wise 63 = .ok (.iinc 3 1, 3) := by decide +kernel
theorem dX7_wise_66 : decode cX7_wise 66 = .ok (.goto (-27), 3) := by decide +kernel
theorem dX7_wise_69 : decode cX7_wise 69 = .ok (.aload_n 0, 1) := by decide +kernel
theorem dX7_wise_70 : decode cX7_wise 70 = .ok (.iload_n 1, 1) := by decide +kernel
theorem dX7_wise_71 : decode cX7_wise 71 = .ok (.iconst 5, 1) := by decide +kernel
theorem dX7_wise_72 : decode cX7_wise 72 = .ok (.invokevirtual 58, 3) := by decide +kernel
theorem dX7_wise_75 : decode cX7_wise 75 = .ok (.invokestatic 84, 3) := by decide +kernel
theorem dX7_wise_78 : decode cX7_wise 78 = .ok (.iload_n 2, 1) := by decide +kernel
theorem dX7_wise_79 : decode cX7_wise 79 = .ok (.if_icmp .lt 7, 3) := by decide +kernel
theorem dX7_wise_82 : decode cX7_wise 82 = .ok (.iconst 1, 1) := by decide +kernel
theorem dX7_wise_83 : decode cX7_wise 83 = .ok (.goto 4, 3) := by decide +kernel
theorem dX7_wise_86 : decode cX7_wise 86 = .ok (.iconst 0, 1) := by decide +kernel
theorem dX7_wise_87 : decode cX7_wise 87 = .ok (.istore 4, 2) := by decide +kernel
theorem dX7_wise_89 : decode cX7_wise 89 = .ok (.aload_n 0, 1) := by decide +kernel
theorem dX7_wise_90 : decode cX7_wise 90 = .ok (.getfield 16, 3) := by decide +kernel
theorem dX7_wise_93 : decode cX7_wise 93 = .ok (.aload_n 0, 1) := by decide +kernel
theorem dX7_wise_94 : decode cX7_wise 94 = .ok (.getfield 7, 3) := by decide +kernel
theorem dX7_wise_97 : decode cX7_wise 97 = .ok (.invokestatic 167, 3) := by decide +kernel
theorem dX7_wise_100 : decode cX7_wise 100 = .ok (.iload 4, 2) := by decide +kernel
theorem dX7_wise_102 : decode cX7_wise 102 = .ok (.ifCond .eq 7, 3) := by decide +kernel
theorem dX7_wise_105 : decode cX7_wise 105 = .ok (.iload_n 3, 1) := by decide +kernel
theorem dX7_wise_106 : decode cX7_wise 106 = .ok (.goto 8, 3) := by decide +kernel
theorem dX7_wise_109 : decode cX7_wise 109 = .ok (.aload_n 0, 1) := by decide +kernel
theorem dX7_wise_110 : decode cX7_wise 110 = .ok (.iconst 3, 1) := by decide +kernel
theorem dX7_wise_111 : decode cX7_wise 111 = .ok (.invokevirtual 128, 3) := by decide +kernel
theorem dX7_wise_114 : decode cX7_wise 114 = .ok (.ireturn, 1) := by decide +kernel
theorem dX7_areKnown_0 : decode cX7_areKnown 0 = .ok (.iload_n 1, 1) := by decide +kernel
theorem dX7_areKnown_1 : decode cX7_areKnown 1 = .ok (.aload_n 0, 1) := by decide +kernel
theorem dX7_areKnown_2 : decode cX7_areKnown 2 = .ok (.invokevirtual 155, 3) := by decide +kernel
theorem dX7_areKnown_5 : decode cX7_areKnown 5 = .ok (.aload_n 0, 1) := by decide +kernel
theorem dX7_areKnown_6 : decode cX7_areKnown 6 = .ok (.invokevirtual 158, 3) := by decide +kernel
theorem dX7_areKnown_9 : decode cX7_areKnown 9 = .ok (.ior, 1) := by decide +kernel
theorem dX7_areKnown_10 : decode cX7_areKnown 10 = .ok (.iconst (-1), 1) := by decide +kernel
theorem dX7_areKnown_11 : decode cX7_areKnown 11 = .ok (.ixor, 1) := by decide +kernel
theorem dX7_areKnown_12 : decode cX7_areKnown 12 = .ok (.iand, 1) := by decide +kernel
theorem dX7_areKnown_13 : decode cX7_areKnown 13 = .ok (.ifCond .ne 7, 3) := by decide +kernel
theorem dX7_areKnown_16 : decode cX7_areKnown 16 = .ok (.iconst 1, 1) := by decide +kernel
theorem dX7_areKnown_17 : decode cX7_areKnown 17 = .ok (.goto 4, 3) := by decide +kernel
theorem dX7_areKnown_20 : decode cX7_areKnown 20 = .ok (.iconst 0, 1) := by decide +kernel
theorem dX7_areKnown_21 : decode cX7_areKnown 21 = .ok (.ireturn, 1) := by decide +kernel
theorem dX7_out_0 : decode cX7_out 0 = .ok (.iload_n 1, 1) := by decide +kernel
theorem dX7_out_1 : decode cX7_out 1 = .ok (.invokestatic 178, 3) := by decide +kernel
theorem dX7_out_4 : decode cX7_out 4 = .ok (.ifCond .ne 9, 3) := by decide +kernel
theorem dX7_out_7 : decode cX7_out 7 = .ok (.aload_n 0, 1) := by decide +kernel
theorem dX7_out_8 : decode cX7_out 8 = .ok (.iconst 0, 1) := by decide +kernel
theorem dX7_out_9 : decode cX7_out 9 = .ok (.invokevirtual 128, 3) := by decide +kernel
theorem dX7_out_12 : decode cX7_out 12 = .ok (.ireturn, 1) := by decide +kernel
theorem dX7_out_13 : decode cX7_out 13 = .ok (.aload_n 0, 1) := by decide +kernel
theorem dX7_out_14 : decode cX7_out 14 = .ok (.getfield 7, 3) := by decide +kernel
theorem dX7_out_17 : decode cX7_out 17 = .ok (.aload_n 0, 1) := by decide +kernel
theorem dX7_out_18 : decode cX7_out 18 = .ok (.getfield 16, 3) := by decide +kernel
theorem dX7_out_21 : decode cX7_out 21 = .ok (.invokestatic 167, 3) := by decide +kernel
theorem dX7_out_24 : decode cX7_out 24 = .ok (.iconst 0, 1) := by decide +kernel
theorem dX7_out_25 : decode cX7_out 25 = .ok (.istore_n 2, 1) := by decide +kernel
theorem dX7_out_26 : decode cX7_out 26 = .ok (.iload_n 2, 1) := by decide +kernel
theorem dX7_out_27 : decode cX7_out 27 = .ok (.sipush 200, 3) := by decide +kernel
theorem dX7_out_30 : decode cX7_out 30 = .ok (.if_icmp .ge 21, 3) := by decide +kernel
theorem dX7_out_33 : decode cX7_out 33 = .ok (.aload_n 0, 1) := by decide +kernel
theorem dX7_out_34 : decode cX7_out 34 = .ok (.iload_n 1, 1) := by decide +kernel
theorem dX7_out_35 : decode cX7_out 35 = .ok (.invokevirtual 181, 3) := by decide +kernel
theorem dX7_out_38 : decode cX7_out 38 = .ok (.ifCond .ne 13, 3) := by decide +kernel
theorem dX7_out_41 : decode cX7_out 41 = .ok (.aload_n 0, 1) := by decide +kernel
theorem dX7_out_42 : decode cX7_out 42 = .ok (.invokevirtual 113, 3) := by decide +kernel
theorem dX7_out_45 : decode cX7_out 45 = .ok (.iinc 2 1, 3) := by decide +kernel
theorem dX7_out_48 : decode cX7_out 48 = .ok (.goto (-22), 3) := by decide +kernel
theorem dX7_out_51 : decode cX7_out 51 = .ok (.aload_n 0, 1) := by decide +kernel
theorem dX7_out_52 : decode cX7_out 52 = .ok (.iload_n 1, 1) := by decide +kernel
theorem dX7_out_53 : decode cX7_out 53 = .ok (.invokevirtual 181, 3) := by decide +kernel
theorem dX7_out_56 : decode cX7_out 56 = .ok (.istore_n 3, 1) := by decide +kernel
theorem dX7_out_57 : decode cX7_out 57 = .ok (.aload_n 0, 1) := by decide +kernel
theorem dX7_out_58 : decode cX7_out 58 = .ok (.getfield 16, 3) := by decide +kernel
theorem dX7_out_61 : decode cX7_out 61 = .ok (.aload_n 0, 1) := by decide +kernel
theorem dX7_out_62 : decode cX7_out 62 = .ok (.getfield 7, 3) := by decide +kernel
theorem dX7_out_65 : decode cX7_out 65 = .ok (.invokestatic 167, 3) := by decide +kernel
theorem dX7_out_68 : decode cX7_out 68 = .ok (.iload_n 3, 1) := by decide +kernel
theorem dX7_out_69 : decode cX7_out 69 = .ok (.ifCond .eq 7, 3) := by decide +kernel
theorem dX7_out_72 : decode cX7_out 72 = .ok (.iload_n 2, 1) := by decide +kernel
theorem dX7_out_73 : decode cX7_out 73 = .ok (.goto 8, 3) := by decide +kernel
theorem dX7_out_76 : decode cX7_out 76 = .ok (.aload_n 0, 1) := by decide +kernel
theorem dX7_out_77 : decode cX7_out 77 = .ok (.iconst 3, 1) := by decide +kernel
theorem dX7_out_78 : decode cX7_out 78 = .ok (.invokevirtual 128, 3) := by decide +kernel
theorem dX7_out_81 : decode cX7_out 81 = .ok (.ireturn, 1) := by decide +kernel
theorem dX7_bestOf_0 : decode cX7_bestOf 0 = .ok (.aload_n 0, 1) := by decide +kernel
theorem dX7_bestOf_1 : decode cX7_bestOf 1 = .ok (.getfield 7, 3) := by decide +kernel
theorem dX7_bestOf_4 : decode cX7_bestOf 4 = .ok (.aload_n 0, 1) := by decide +kernel
theorem dX7_bestOf_5 : decode cX7_bestOf 5 = .ok (.getfield 16, 3) := by decide +kernel
theorem dX7_bestOf_8 : decode cX7_bestOf 8 = .ok (.invokestatic 167, 3) := by decide +kernel
theorem dX7_bestOf_11 : decode cX7_bestOf 11 = .ok (.iconst 0, 1) := by decide +kernel
theorem dX7_bestOf_12 : decode cX7_bestOf 12 = .ok (.istore 5, 2) := by decide +kernel
theorem dX7_bestOf_14 : decode cX7_bestOf 14 = .ok (.iconst (-1), 1) := by decide +kernel
theorem dX7_bestOf_15 : decode cX7_bestOf 15 = .ok (.istore 6, 2) := by decide +kernel
theorem dX7_bestOf_17 : decode cX7_bestOf 17 = .ok (.iconst 0, 1) := by decide +kernel
theorem dX7_bestOf_18 : decode cX7_bestOf 18 = .ok (.istore 7, 2) := by decide +kernel
theorem dX7_bestOf_20 : decode cX7_bestOf 20 = .ok (.iload 7, 2) := by decide +kernel
theorem dX7_bestOf_22 : decode cX7_bestOf 22 = .ok (.iload_n 3, 1) := by decide +kernel
theorem dX7_bestOf_23 : decode cX7_bestOf 23 = .ok (.if_icmp .gt 47, 3) := by decide +kernel
theorem dX7_bestOf_26 : decode cX7_bestOf 26 = .ok (.aload_n 0, 1) := by decide +kernel
theorem dX7_bestOf_27 : decode cX7_bestOf 27 = .ok (.iload_n 1, 1) := by decide +kernel
theorem dX7_bestOf_28 : decode cX7_bestOf 28 = .ok (.iload_n 2, 1) := by decide +kernel
theorem dX7_bestOf_29 : decode cX7_bestOf 29 = .ok (.iload 7, 2) := by decide +kernel
theorem dX7_bestOf_31 : decode cX7_bestOf 31 = .ok (.invokevirtual 90, 3) := by decide +kernel
theorem dX7_bestOf_34 : decode cX7_bestOf 34 = .ok (.aload_n 0, 1) := by decide +kernel
theorem dX7_bestOf_35 : decode cX7_bestOf 35 = .ok (.iload 4, 2) := by decide +kernel
theorem dX7_bestOf_37 : decode cX7_bestOf 37 = .ok (.bipush 49, 2) := by decide +kernel
theorem dX7_bestOf_39 : decode cX7_bestOf 39 = .ok (.iload_n 1, 1) := by decide +kernel
theorem dX7_bestOf_40 : decode cX7_bestOf 40 = .ok (.iadd, 1) := by decide +kernel
theorem dX7_bestOf_41 : decode cX7_bestOf 41 = .ok (.invokevirtual 173, 3) := by decide +kernel
theorem dX7_bestOf_44 : decode cX7_bestOf 44 = .ok (.invokestatic 84, 3) := by decide +kernel
theorem dX7_bestOf_47 : decode cX7_bestOf 47 = .ok (.istore 8, 2) := by decide +kernel
theorem dX7_bestOf_49 : decode cX7_bestOf 49 = .ok (.iload 8, 2) := by decide +kernel
theorem dX7_bestOf_51 : decode cX7_bestOf 51 = .ok (.iload 6, 2) := by decide +kernel
theorem dX7_bestOf_53 : decode cX7_bestOf 53 = .ok (.if_icmp .le 11, 3) := by decide +kernel
theorem dX7_bestOf_56 : decode cX7_bestOf 56 = .ok (.iload 7, 2) := by decide +kernel
theorem dX7_bestOf_58 : decode cX7_bestOf 58 = .ok (.istore 5, 2) := by decide +kernel
theorem dX7_bestOf_60 : decode cX7_bestOf 60 = .ok (.iload 8, 2) := by decide +kernel
theorem dX7_bestOf_62 : decode cX7_bestOf 62 = .ok (.istore 6, 2) := by decide +kernel
theorem dX7_bestOf_64 : decode cX7_bestOf 64 = .ok (.iinc 7 1, 3) := by decide +kernel
theorem dX7_bestOf_67 : decode cX7_bestOf 67 = .ok (.goto (-47), 3) := by decide +kernel
theorem dX7_bestOf_70 : decode cX7_bestOf 70 = .ok (.iload 5, 2) := by decide +kernel
theorem dX7_bestOf_72 : decode cX7_bestOf 72 = .ok (.ireturn, 1) := by decide +kernel
theorem dX7_leave_0 : decode cX7_leave 0 = .ok (.aload_n 0, 1) := by decide +kernel
theorem dX7_leave_1 : decode cX7_leave 1 = .ok (.iload_n 1, 1) := by decide +kernel
theorem dX7_leave_2 : decode cX7_leave 2 = .ok (.invokevirtual 138, 3) := by decide +kernel
theorem dX7_leave_5 : decode cX7_leave 5 = .ok (.ifCond .eq 26, 3) := by decide +kernel
theorem dX7_leave_8 : decode cX7_leave 8 = .ok (.iload_n 2, 1) := by decide +kernel
theorem dX7_leave_9 : decode cX7_leave 9 = .ok (.i2l, 1) := by decide +kernel
theorem dX7_leave_10 : decode cX7_leave 10 = .ok (.lconst 0, 1) := by decide +kernel
theorem dX7_leave_11 : decode cX7_leave 11 = .ok (.ldc2_w 150, 3) := by decide +kernel
theorem dX7_leave_14 : decode cX7_leave 14 = .ok (.invokestatic 42, 3) := by decide +kernel
theorem dX7_leave_17 : decode cX7_leave 17 = .ok (.ifCond .eq 14, 3) := by decide +kernel
theorem dX7_leave_20 : decode cX7_leave 20 = .ok (.aload_n 0, 1) := by decide +kernel
theorem dX7_leave_21 : decode cX7_leave 21 = .ok (.iload_n 1, 1) := by decide +kernel
theorem dX7_leave_22 : decode cX7_leave 22 = .ok (.iconst 1, 1) := by decide +kernel
theorem dX7_leave_23 : decode cX7_leave 23 = .ok (.iconst 5, 1) := by decide +kernel
theorem dX7_leave_24 : decode cX7_leave 24 = .ok (.iload_n 2, 1) := by decide +kernel
theorem dX7_leave_25 : decode cX7_leave 25 = .ok (.invokevirtual 184, 3) := by decide +kernel
theorem dX7_leave_28 : decode cX7_leave 28 = .ok (.goto 8, 3) := by decide +kernel
theorem dX7_leave_31 : decode cX7_leave 31 = .ok (.aload_n 0, 1) := by decide +kernel
theorem dX7_leave_32 : decode cX7_leave 32 = .ok (.iconst 0, 1) := by decide +kernel
theorem dX7_leave_33 : decode cX7_leave 33 = .ok (.invokevirtual 128, 3) := by decide +kernel
theorem dX7_leave_36 : decode cX7_leave 36 = .ok (.ireturn, 1) := by decide +kernel
theorem dX7_openFor_0 : decode cX7_openFor 0 = .ok (.aload_n 0, 1) := by decide +kernel
theorem dX7_openFor_1 : decode cX7_openFor 1 = .ok (.iload_n 1, 1) := by decide +kernel
theorem dX7_openFor_2 : decode cX7_openFor 2 = .ok (.invokevirtual 138, 3) := by decide +kernel
theorem dX7_openFor_5 : decode cX7_openFor 5 = .ok (.ifCond .eq 27, 3) := by decide +kernel
theorem dX7_openFor_8 : decode cX7_openFor 8 = .ok (.iload_n 2, 1) := by decide +kernel
theorem dX7_openFor_9 : decode cX7_openFor 9 = .ok (.i2l, 1) := by decide +kernel
theorem dX7_openFor_10 : decode cX7_openFor 10 = .ok (.lconst 0, 1) := by decide +kernel
theorem dX7_openFor_11 : decode cX7_openFor 11 = .ok (.ldc2_w 176, 3) := by decide +kernel
theorem dX7_openFor_14 : decode cX7_openFor 14 = .ok (.invokestatic 42, 3) := by decide +kernel
theorem dX7_openFor_17 : decode cX7_openFor 17 = .ok (.ifCond .eq 15, 3) := by decide +kernel
theorem dX7_openFor_20 : decode cX7_openFor 20 = .ok (.iload_n 3, 1) := by decide +kernel
theorem dX7_openFor_21 : decode cX7_openFor 21 = .ok (.i2l, 1) := by decide +kernel
theorem dX7_openFor_22 : decode cX7_openFor 22 = .ok (.lconst 0, 1) := by decide +kernel
theorem dX7_openFor_23 : decode cX7_openFor 23 = .ok (.ldc2_w 150, 3) := by decide +kernel
theorem dX7_openFor_26 : decode cX7_openFor 26 = .ok (.invokestatic 42, 3) := by decide +kernel
theorem dX7_openFor_29 : decode cX7_openFor 29 = .ok (.ifCond .ne 9, 3) := by decide +kernel
theorem dX7_openFor_32 : decode cX7_openFor 32 = .ok (.aload_n 0, 1) := by decide +kernel
theorem dX7_openFor_33 : decode cX7_openFor 33 = .ok (.iconst 0, 1) := by decide +kernel
theorem dX7_openFor_34 : decode cX7_openFor 34 = .ok (.invokevirtual 128, 3) := by decide +kernel
theorem dX7_openFor_37 : decode cX7_openFor 37 = .ok (.ireturn, 1) := by decide +kernel
theorem dX7_openFor_38 : decode cX7_openFor 38 = .ok (.aload_n 0, 1) := by decide +kernel
theorem dX7_openFor_39 : decode cX7_openFor 39 = .ok (.getfield 7, 3) := by decide +kernel
theorem dX7_openFor_42 : decode cX7_openFor 42 = .ok (.aload_n 0, 1) := by decide +kernel
theorem dX7_openFor_43 : decode cX7_openFor 43 = .ok (.getfield 16, 3) := by decide +kernel
theorem dX7_openFor_46 : decode cX7_openFor 46 = .ok (.invokestatic 167, 3) := by decide +kernel
theorem dX7_openFor_49 : decode cX7_openFor 49 = .ok (.iconst 0, 1) := by decide +kernel
theorem dX7_openFor_50 : decode cX7_openFor 50 = .ok (.istore 4, 2) := by decide +kernel
theorem dX7_openFor_52 : decode cX7_openFor 52 = .ok (.iload 4, 2) := by decide +kernel
theorem dX7_openFor_54 : decode cX7_openFor 54 = .ok (.bipush 10, 2) := by decide +kernel
theorem dX7_openFor_56 : decode cX7_openFor 56 = .ok (.if_icmp .ge 36, 3) := by decide +kernel
theorem dX7_openFor_59 : decode cX7_openFor 59 = .ok (.aload_n 0, 1) := by decide +kernel
theorem dX7_openFor_60 : decode cX7_openFor 60 = .ok (.iload_n 1, 1) := by decide +kernel
theorem dX7_openFor_61 : decode cX7_openFor 61 = .ok (.iconst 2, 1) := by decide +kernel
theorem dX7_openFor_62 : decode cX7_openFor 62 = .ok (.iload 4, 2) := by decide +kernel
theorem dX7_openFor_64 : decode cX7_openFor 64 = .ok (.invokevirtual 90, 3) := by decide +kernel
theorem dX7_openFor_67 : decode cX7_openFor 67 = .ok (.aload_n 0, 1) := by decide +kernel
theorem dX7_openFor_68 : decode cX7_openFor 68 = .ok (.iload_n 3, 1) := by decide +kernel
theorem dX7_openFor_69 : decode cX7_openFor 69 = .ok (.bipush 49, 2) := by decide +kernel
theorem dX7_openFor_71 : decode cX7_openFor 71 = .ok (.iload_n 1, 1) := by decide +kernel
theorem dX7_openFor_72 : decode cX7_openFor 72 = .ok (.iadd, 1) := by decide +kernel
theorem dX7_openFor_73 : decode cX7_openFor 73 = .ok (.invokevirtual 173, 3) := by decide +kernel
theorem dX7_openFor_76 : decode cX7_openFor 76 = .ok (.invokestatic 84, 3) := by decide +kernel
theorem dX7_openFor_79 : decode cX7_openFor 79 = .ok (.iload_n 2, 1) := by decide +kernel
theorem dX7_openFor_80 : decode cX7_openFor 80 = .ok (.if_icmp .lt 6, 3) := by decide +kernel
theorem dX7_openFor_83 : decode cX7_openFor 83 = .ok (.iload 4, 2) := by decide +kernel
theorem dX7_openFor_85 : decode cX7_openFor 85 = .ok (.ireturn, 1) := by decide +kernel
theorem dX7_openFor_86 : decode cX7_openFor 86 = .ok (.iinc 4 1, 3) := by decide +kernel
theorem dX7_openFor_89 : decode cX7_openFor 89 = .ok (.goto (-37), 3) := by decide +kernel
theorem dX7_openFor_92 : decode cX7_openFor 92 = .ok (.aload_n 0, 1) := by decide +kernel
theorem dX7_openFor_93 : decode cX7_openFor 93 = .ok (.iconst 3, 1) := by decide +kernel
theorem dX7_openFor_94 : decode cX7_openFor 94 = .ok (.invokevirtual 128, 3) := by decide +kernel
theorem dX7_openFor_97 : decode cX7_openFor 97 = .ok (.ireturn, 1) := by decide +kernel
theorem dX7_kindFor_0 : decode cX7_kindFor 0 = .ok (.aload_n 0, 1) := by decide +kernel
theorem dX7_kindFor_1 : decode cX7_kindFor 1 = .ok (.iload_n 1, 1) := by decide +kernel
theorem dX7_kindFor_2 : decode cX7_kindFor 2 = .ok (.invokevirtual 138, 3) := by decide +kernel
theorem dX7_kindFor_5 : decode cX7_kindFor 5 = .ok (.ifCond .eq 27, 3) := by decide +kernel
theorem dX7_kindFor_8 : decode cX7_kindFor 8 = .ok (.iload_n 2, 1) := by decide +kernel
theorem dX7_kindFor_9 : decode cX7_kindFor 9 = .ok (.i2l, 1) := by decide +kernel
theorem dX7_kindFor_10 : decode cX7_kindFor 10 = .ok (.lconst 0, 1) := by decide +kernel
theorem dX7_kindFor_11 : decode cX7_kindFor 11 = .ok (.ldc2_w 150, 3) := by decide +kernel
theorem dX7_kindFor_14 : decode cX7_kindFor 14 = .ok (.invokestatic 42, 3) := by decide +kernel
theorem dX7_kindFor_17 : decode cX7_kindFor 17 = .ok (.ifCond .eq 15, 3) := by decide +kernel
theorem dX7_kindFor_20 : decode cX7_kindFor 20 = .ok (.aload_n 0, 1) := by decide +kernel
theorem dX7_kindFor_21 : decode cX7_kindFor 21 = .ok (.iload_n 1, 1) := by decide +kernel
theorem dX7_kindFor_22 : decode cX7_kindFor 22 = .ok (.iconst 0, 1) := by decide +kernel
theorem dX7_kindFor_23 : decode cX7_kindFor 23 = .ok (.bipush 6, 2) := by decide +kernel
theorem dX7_kindFor_25 : decode cX7_kindFor 25 = .ok (.iload_n 2, 1) := by decide +kernel
theorem dX7_kindFor_26 : decode cX7_kindFor 26 = .ok (.invokevirtual 184, 3) := by decide +kernel
theorem dX7_kindFor_29 : decode cX7_kindFor 29 = .ok (.goto 8, 3) := by decide +kernel
theorem dX7_kindFor_32 : decode cX7_kindFor 32 = .ok (.aload_n 0, 1) := by decide +kernel
theorem dX7_kindFor_33 : decode cX7_kindFor 33 = .ok (.iconst 0, 1) := by decide +kernel
theorem dX7_kindFor_34 : decode cX7_kindFor 34 = .ok (.invokevirtual 128, 3) := by decide +kernel
theorem dX7_kindFor_37 : decode cX7_kindFor 37 = .ok (.ireturn, 1) := by decide +kernel
theorem dX7_lower_0 : decode cX7_lower 0 = .ok (.iload_n 1, 1) := by decide +kernel
theorem dX7_lower_1 : decode cX7_lower 1 = .ok (.invokestatic 119, 3) := by decide +kernel
theorem dX7_lower_4 : decode cX7_lower 4 = .ok (.ifCond .ne 9, 3) := by decide +kernel
theorem dX7_lower_7 : decode cX7_lower 7 = .ok (.aload_n 0, 1) := by decide +kernel
theorem dX7_lower_8 : decode cX7_lower 8 = .ok (.iconst 0, 1) := by decide +kernel
theorem dX7_lower_9 : decode cX7_lower 9 = .ok (.invokevirtual 128, 3) := by decide +kernel
theorem dX7_lower_12 : decode cX7_lower 12 = .ok (.ireturn, 1) := by decide +kernel
theorem dX7_lower_13 : decode cX7_lower 13 = .ok (.aload_n 0, 1) := by decide +kernel
theorem dX7_lower_14 : decode cX7_lower 14 = .ok (.getfield 7, 3) := by decide +kernel
theorem dX7_lower_17 : decode cX7_lower 17 = .ok (.iconst 3, 1) := by decide +kernel
theorem dX7_lower_18 : decode cX7_lower 18 = .ok (.iload_n 1, 1) := by decide +kernel
theorem dX7_lower_19 : decode cX7_lower 19 = .ok (.iadd, 1) := by decide +kernel
theorem dX7_lower_20 : decode cX7_lower 20 = .ok (.iaload, 1) := by decide +kernel
theorem dX7_lower_21 : decode cX7_lower 21 = .ok (.aload_n 0, 1) := by decide +kernel
theorem dX7_lower_22 : decode cX7_lower 22 = .ok (.getfield 7, 3) := by decide +kernel
theorem dX7_lower_25 : decode cX7_lower 25 = .ok (.iconst 3, 1) := by decide +kernel
theorem dX7_lower_26 : decode cX7_lower 26 = .ok (.iload_n 1, 1) := by decide +kernel
theorem dX7_lower_27 : decode cX7_lower 27 = .ok (.iadd, 1) := by decide +kernel
theorem dX7_lower_28 : decode cX7_lower 28 = .ok (.iaload, 1) := by decide +kernel
theorem dX7_lower_29 : decode cX7_lower 29 = .ok (.bipush 10, 2) := by decide +kernel
theorem dX7_lower_31 : decode cX7_lower 31 = .ok (.irem, 1) := by decide +kernel
theorem dX7_lower_32 : decode cX7_lower 32 = .ok (.isub, 1) := by decide +kernel
theorem dX7_lower_33 : decode cX7_lower 33 = .ok (.istore_n 2, 1) := by decide +kernel
theorem dX7_lower_34 : decode cX7_lower 34 = .ok (.bipush 9, 2) := by decide +kernel
theorem dX7_lower_36 : decode cX7_lower 36 = .ok (.istore_n 3, 1) := by decide +kernel
theorem dX7_lower_37 : decode cX7_lower 37 = .ok (.iload_n 3, 1) := by decide +kernel
theorem dX7_lower_38 : decode cX7_lower 38 = .ok (.ifCond .lt 21, 3) := by decide +kernel
theorem dX7_lower_41 : decode cX7_lower 41 = .ok (.aload_n 0, 1) := by decide +kernel
theorem dX7_lower_42 : decode cX7_lower 42 = .ok (.iload_n 2, 1) := by decide +kernel
theorem dX7_lower_43 : decode cX7_lower 43 = .ok (.iload_n 3, 1) := by decide +kernel
theorem dX7_lower_44 : decode cX7_lower 44 = .ok (.iadd, 1) := by decide +kernel
theorem dX7_lower_45 : decode cX7_lower 45 = .ok (.invokevirtual 98, 3) := by decide +kernel
theorem dX7_lower_48 : decode cX7_lower 48 = .ok (.ifCond .ne 5, 3) := by decide +kernel
theorem dX7_lower_51 : decode cX7_lower 51 = .ok (.iload_n 3, 1) := by decide +kernel
theorem dX7_lower_52 : decode cX7_lower 52 = .ok (.ireturn, 1) := by decide +kernel
theorem dX7_lower_53 : decode cX7_lower 53 = .ok (.iinc 3 (-1), 3) := by decide +kernel
theorem dX7_lower_56 : decode cX7_lower 56 = .ok (.goto (-19), 3) := by decide +kernel
theorem dX7_lower_59 : decode cX7_lower 59 = .ok (.aload_n 0, 1) := by decide +kernel
theorem dX7_lower_60 : decode cX7_lower 60 = .ok (.iconst 3, 1) := by decide +kernel
theorem dX7_lower_61 : decode cX7_lower 61 = .ok (.invokevirtual 128, 3) := by decide +kernel
theorem dX7_lower_64 : decode cX7_lower 64 = .ok (.ireturn, 1) := by decide +kernel
theorem dX7_cover_0 : decode cX7_cover 0 = .ok (.iload_n 1, 1) := by decide +kernel
theorem dX7_cover_1 : decode cX7_cover 1 = .ok (.invokestatic 178, 3) := by decide +kernel
theorem dX7_cover_4 : decode cX7_cover 4 = .ok (.ifCond .ne 9, 3) := by decide +kernel
theorem dX7_cover_7 : decode cX7_cover 7 = .ok (.aload_n 0, 1) := by decide +kernel
theorem dX7_cover_8 : decode cX7_cover 8 = .ok (.iconst 0, 1) := by decide +kernel
theorem dX7_cover_9 : decode cX7_cover 9 = .ok (.invokevirtual 128, 3) := by decide +kernel
theorem dX7_cover_12 : decode cX7_cover 12 = .ok (.ireturn, 1) := by decide +kernel
theorem dX7_cover_13 : decode cX7_cover 13 = .ok (.iconst (-1), 1) := by decide +kernel
theorem dX7_cover_14 : decode cX7_cover 14 = .ok (.istore_n 2, 1) := by decide +kernel
theorem dX7_cover_15 : decode cX7_cover 15 = .ok (.iconst 0, 1) := by decide +kernel
theorem dX7_cover_16 : decode cX7_cover 16 = .ok (.istore_n 3, 1) := by decide +kernel
theorem dX7_cover_17 : decode cX7_cover 17 = .ok (.iload_n 3, 1) := by decide +kernel
theorem dX7_cover_18 : decode cX7_cover 18 = .ok (.iconst 1, 1) := by decide +kernel
theorem dX7_cover_19 : decode cX7_cover 19 = .ok (.aload_n 0, 1) := by decide +kernel
theorem dX7_cover_20 : decode cX7_cover 20 = .ok (.getfield 7, 3) := by decide +kernel
theorem dX7_cover_23 : decode cX7_cover 23 = .ok (.iconst 0, 1) := by decide +kernel
theorem dX7_cover_24 : decode cX7_cover 24 = .ok (.iaload, 1) := by decide +kernel
theorem dX7_cover_25 : decode cX7_cover 25 = .ok (.ishl, 1) := by decide +kernel
theorem dX7_cover_26 : decode cX7_cover 26 = .ok (.if_icmp .ge 62, 3) := by decide +kernel
theorem dX7_cover_29 : decode cX7_cover 29 = .ok (.iload_n 1, 1) := by decide +kernel
theorem dX7_cover_30 : decode cX7_cover 30 = .ok (.aload_n 0, 1) := by decide +kernel
theorem dX7_cover_31 : decode cX7_cover 31 = .ok (.iload_n 3, 1) := by decide +kernel
theorem dX7_cover_32 : decode cX7_cover 32 = .ok (.iconst 3, 1) := by decide +kernel
theorem dX7_cover_33 : decode cX7_cover 33 = .ok (.invokevirtual 116, 3) := by decide +kernel
theorem dX7_cover_36 : decode cX7_cover 36 = .ok (.aload_n 0, 1) := by decide +kernel
theorem dX7_cover_37 : decode cX7_cover 37 = .ok (.iload_n 3, 1) := by decide +kernel
theorem dX7_cover_38 : decode cX7_cover 38 = .ok (.iconst 5, 1) := by decide +kernel
theorem dX7_cover_39 : decode cX7_cover 39 = .ok (.invokevirtual 116, 3) := by decide +kernel
theorem dX7_cover_42 : decode cX7_cover 42 = .ok (.ior, 1) := by decide +kernel
theorem dX7_cover_43 : decode cX7_cover 43 = .ok (.iconst (-1), 1) := by decide +kernel
theorem dX7_cover_44 : decode cX7_cover 44 = .ok (.ixor, 1) := by decide +kernel
theorem dX7_cover_45 : decode cX7_cover 45 = .ok (.iand, 1) := by decide +kernel
theorem dX7_cover_46 : decode cX7_cover 46 = .ok (.ifCond .ne 7, 3) := by decide +kernel
theorem dX7_cover_49 : decode cX7_cover 49 = .ok (.iconst 1, 1) := by decide +kernel
theorem dX7_cover_50 : decode cX7_cover 50 = .ok (.goto 4, 3) := by decide +kernel
theorem dX7_cover_53 : decode cX7_cover 53 = .ok (.iconst 0, 1) := by decide +kernel
theorem dX7_cover_54 : decode cX7_cover 54 = .ok (.istore 4, 2) := by decide +kernel
theorem dX7_cover_56 : decode cX7_cover 56 = .ok (.iload 4, 2) := by decide +kernel
theorem dX7_cover_58 : decode cX7_cover 58 = .ok (.ifCond .eq 22, 3) := by decide +kernel
theorem dX7_cover_61 : decode cX7_cover 61 = .ok (.iload_n 2, 1) := by decide +kernel
theorem dX7_cover_62 : decode cX7_cover 62 = .ok (.ifCond .lt 14, 3) := by decide +kernel
theorem dX7_cover_65 : decode cX7_cover 65 = .ok (.iload_n 3, 1) := by decide +kernel
theorem dX7_cover_66 : decode cX7_cover 66 = .ok (.invokestatic 84, 3) := by decide +kernel
theorem dX7_cover_69 : decode cX7_cover 69 = .ok (.iload_n 2, 1) := by decide +kernel
theorem dX7_cover_70 : decode cX7_cover 70 = .ok (.invokestatic 84, 3) := by decide +kernel
theorem dX7_cover_73 : decode cX7_cover 73 = .ok (.if_icmp .ge 7, 3) := by decide +kernel
theorem dX7_cover_76 : decode cX7_cover 76 = .ok (.iload_n 3, 1) := by decide +kernel
theorem dX7_cover_77 : decode cX7_cover 77 = .ok (.goto 4, 3) := by decide +kernel
theorem dX7_cover_80 : decode cX7_cover 80 = .ok (.iload_n 2, 1) := by decide +kernel
theorem dX7_cover_81 : decode cX7_cover 81 = .ok (.istore_n 2, 1) := by decide +kernel
theorem dX7_cover_82 : decode cX7_cover 82 = .ok (.iinc 3 1, 3) := by decide +kernel
theorem dX7_cover_85 : decode cX7_cover 85 = .ok (.goto (-68), 3) := by decide +kernel
theorem dX7_cover_88 : decode cX7_cover 88 = .ok (.iload_n 2, 1) := by decide +kernel
theorem dX7_cover_89 : decode cX7_cover 89 = .ok (.ifCond .ge 11, 3) := by decide +kernel
theorem dX7_cover_92 : decode cX7_cover 92 = .ok (.aload_n 0, 1) := by decide +kernel
theorem dX7_cover_93 : decode cX7_cover 93 = .ok (.iconst 3, 1) := by decide +kernel
theorem dX7_cover_94 : decode cX7_cover 94 = .ok (.invokevirtual 128, 3) := by decide +kernel
theorem dX7_cover_97 : decode cX7_cover 97 = .ok (.goto 4, 3) := by decide +kernel
theorem dX7_cover_100 : decode cX7_cover 100 = .ok (.iload_n 2, 1) := by decide +kernel
theorem dX7_cover_101 : decode cX7_cover 101 = .ok (.ireturn, 1) := by decide +kernel
theorem dX7_away_0 : decode cX7_away 0 = .ok (.aload_n 0, 1) := by decide +kernel
theorem dX7_away_1 : decode cX7_away 1 = .ok (.iload_n 1, 1) := by decide +kernel
theorem dX7_away_2 : decode cX7_away 2 = .ok (.invokevirtual 138, 3) := by decide +kernel
theorem dX7_away_5 : decode cX7_away 5 = .ok (.ifCond .eq 22, 3) := by decide +kernel
theorem dX7_away_8 : decode cX7_away 8 = .ok (.iload_n 2, 1) := by decide +kernel
theorem dX7_away_9 : decode cX7_away 9 = .ok (.invokestatic 147, 3) := by decide +kernel
theorem dX7_away_12 : decode cX7_away 12 = .ok (.ifCond .eq 15, 3) := by decide +kernel
theorem dX7_away_15 : decode cX7_away 15 = .ok (.iload_n 3, 1) := by decide +kernel
theorem dX7_away_16 : decode cX7_away 16 = .ok (.i2l, 1) := by decide +kernel
theorem dX7_away_17 : decode cX7_away 17 = .ok (.lconst 0, 1) := by decide +kernel
theorem dX7_away_18 : decode cX7_away 18 = .ok (.ldc2_w 188, 3) := by decide +kernel
theorem dX7_away_21 : decode cX7_away 21 = .ok (.invokestatic 42, 3) := by decide +kernel
theorem dX7_away_24 : decode cX7_away 24 = .ok (.ifCond .ne 9, 3) := by decide +kernel
theorem dX7_away_27 : decode cX7_away 27 = .ok (.aload_n 0, 1) := by decide +kernel
theorem dX7_away_28 : decode cX7_away 28 = .ok (.iconst 0, 1) := by decide +kernel
theorem dX7_away_29 : decode cX7_away 29 = .ok (.invokevirtual 128, 3) := by decide +kernel
theorem dX7_away_32 : decode cX7_away 32 = .ok (.ireturn, 1) := by decide +kernel
theorem dX7_away_33 : decode cX7_away 33 = .ok (.aload_n 0, 1) := by decide +kernel
theorem dX7_away_34 : decode cX7_away 34 = .ok (.getfield 7, 3) := by decide +kernel
theorem dX7_away_37 : decode cX7_away 37 = .ok (.aload_n 0, 1) := by decide +kernel
theorem dX7_away_38 : decode cX7_away 38 = .ok (.getfield 16, 3) := by decide +kernel
theorem dX7_away_41 : decode cX7_away 41 = .ok (.invokestatic 167, 3) := by decide +kernel
theorem dX7_away_44 : decode cX7_away 44 = .ok (.iconst (-1), 1) := by decide +kernel
theorem dX7_away_45 : decode cX7_away 45 = .ok (.istore 4, 2) := by decide +kernel
theorem dX7_away_47 : decode cX7_away 47 = .ok (.iconst 0, 1) := by decide +kernel
theorem dX7_away_48 : decode cX7_away 48 = .ok (.istore 5, 2) := by decide +kernel
theorem dX7_away_50 : decode cX7_away 50 = .ok (.iload 5, 2) := by decide +kernel
theorem dX7_away_52 : decode cX7_away 52 = .ok (.iconst 1, 1) := by decide +kernel
theorem dX7_away_53 : decode cX7_away 53 = .ok (.aload_n 0, 1) := by decide +kernel
theorem dX7_away_54 : decode cX7_away 54 = .ok (.getfield 7, 3) := by decide +kernel
theorem dX7_away_57 : decode cX7_away 57 = .ok (.iconst 0, 1) := by decide +kernel
theorem dX7_away_58 : decode cX7_away 58 = .ok (.iaload, 1) := by decide +kernel
theorem dX7_away_59 : decode cX7_away 59 = .ok (.ishl, 1) := by decide +kernel
theorem dX7_away_60 : decode cX7_away 60 = .ok (.if_icmp .ge 96, 3) := by decide +kernel
theorem dX7_away_63 : decode cX7_away 63 = .ok (.iload 5, 2) := by decide +kernel
theorem dX7_away_65 : decode cX7_away 65 = .ok (.iload_n 1, 1) := by decide +kernel
theorem dX7_away_66 : decode cX7_away 66 = .ok (.ishr, 1) := by decide +kernel
theorem dX7_away_67 : decode cX7_away 67 = .ok (.iconst 1, 1) := by decide +kernel
theorem dX7_away_68 : decode cX7_away 68 = .ok (.iand, 1) := by decide +kernel
theorem dX7_away_69 : decode cX7_away 69 = .ok (.iconst 1, 1) := by decide +kernel
theorem dX7_away_70 : decode cX7_away 70 = .ok (.if_icmp .eq 80, 3) := by decide +kernel
theorem dX7_away_73 : decode cX7_away 73 = .ok (.iload 4, 2) := by decide +kernel
theorem dX7_away_75 : decode cX7_away 75 = .ok (.ifCond .lt 19, 3) := by decide +kernel
theorem dX7_away_78 : decode cX7_away 78 = .ok (.iload 5, 2) := by decide +kernel
theorem dX7_away_80 : decode cX7_away 80 = .ok (.invokestatic 84, 3) := by decide +kernel
theorem dX7_away_83 : decode cX7_away 83 = .ok (.iload 4, 2) := by decide +kernel
theorem dX7_away_85 : decode cX7_away 85 = .ok (.invokestatic 84, 3) := by decide +kernel
theorem dX7_away_88 : decode cX7_away 88 = .ok (.if_icmp .lt 6, 3) := by decide +kernel
theorem dX7_away_91 : decode cX7_away 91 = .ok (.goto 59, 3) := by decide +kernel
theorem dX7_away_94 : decode cX7_away 94 = .ok (.aload_n 0, 1) := by decide +kernel
theorem dX7_away_95 : decode cX7_away 95 = .ok (.iload 5, 2) := by decide +kernel
theorem dX7_away_97 : decode cX7_away 97 = .ok (.putfield 54, 3) := by decide +kernel
theorem dX7_away_100 : decode cX7_away 100 = .ok (.aload_n 0, 1) := by decide +kernel
theorem dX7_away_101 : decode cX7_away 101 = .ok (.iload_n 3, 1) := by decide +kernel
theorem dX7_away_102 : decode cX7_away 102 = .ok (.invokevirtual 152, 3) := by decide +kernel
theorem dX7_away_105 : decode cX7_away 105 = .ok (.aload_n 0, 1) := by decide +kernel
theorem dX7_away_106 : decode cX7_away 106 = .ok (.iload_n 1, 1) := by decide +kernel
theorem dX7_away_107 : decode cX7_away 107 = .ok (.iconst 3, 1) := by decide +kernel
theorem dX7_away_108 : decode cX7_away 108 = .ok (.invokevirtual 58, 3) := by decide +kernel
theorem dX7_away_111 : decode cX7_away 111 = .ok (.aload_n 0, 1) := by decide +kernel
theorem dX7_away_112 : decode cX7_away 112 = .ok (.iload_n 1, 1) := by decide +kernel
theorem dX7_away_113 : decode cX7_away 113 = .ok (.iconst 5, 1) := by decide +kernel
theorem dX7_away_114 : decode cX7_away 114 = .ok (.invokevirtual 58, 3) := by decide +kernel
theorem dX7_away_117 : decode cX7_away 117 = .ok (.ior, 1) := by decide +kernel
theorem dX7_away_118 : decode cX7_away 118 = .ok (.istore 6, 2) := by decide +kernel
theorem dX7_away_120 : decode cX7_away 120 = .ok (.aload_n 0, 1) := by decide +kernel
theorem dX7_away_121 : decode cX7_away 121 = .ok (.getfield 16, 3) := by decide +kernel
theorem dX7_away_124 : decode cX7_away 124 = .ok (.aload_n 0, 1) := by decide +kernel
theorem dX7_away_125 : decode cX7_away 125 = .ok (.getfield 7, 3) := by decide +kernel
theorem dX7_away_128 : decode cX7_away 128 = .ok (.invokestatic 167, 3) := by decide +kernel
theorem dX7_away_131 : decode cX7_away 131 = .ok (.iload 6, 2) := by decide +kernel
theorem dX7_away_133 : decode cX7_away 133 = .ok (.iload_n 2, 1) := by decide +kernel
theorem dX7_away_134 : decode cX7_away 134 = .ok (.ishr, 1) := by decide +kernel
theorem dX7_away_135 : decode cX7_away 135 = .ok (.iconst 1, 1) := by decide +kernel
theorem dX7_away_136 : decode cX7_away 136 = .ok (.iand, 1) := by decide +kernel
theorem dX7_away_137 : decode cX7_away 137 = .ok (.iconst 1, 1) := by decide +kernel
theorem dX7_away_138 : decode cX7_away 138 = .ok (.if_icmp .ne 8, 3) := by decide +kernel
theorem dX7_away_141 : decode cX7_away 141 = .ok (.iload 5, 2) := by decide +kernel
theorem dX7_away_143 : decode cX7_away 143 = .ok (.goto 5, 3) := by decide +kernel
theorem dX7_away_146 : decode cX7_away 146 = .ok (.iload 4, 2) := by decide +kernel
theorem dX7_away_148 : decode cX7_away 148 = .ok (.istore 4, 2) := by decide +kernel
theorem dX7_away_150 : decode cX7_away 150 = .ok (.iinc 5 1, 3) := by decide +kernel
theorem dX7_away_153 : decode cX7_away 153 = .ok (.goto (-103), 3) := by decide +kernel
theorem dX7_away_156 : decode cX7_away 156 = .ok (.aload_n 0, 1) := by decide +kernel
theorem dX7_away_157 : decode cX7_away 157 = .ok (.iconst 0, 1) := by decide +kernel
theorem dX7_away_158 : decode cX7_away 158 = .ok (.putfield 54, 3) := by decide +kernel
theorem dX7_away_161 : decode cX7_away 161 = .ok (.iload 4, 2) := by decide +kernel
theorem dX7_away_163 : decode cX7_away 163 = .ok (.ifCond .ge 11, 3) := by decide +kernel
theorem dX7_away_166 : decode cX7_away 166 = .ok (.aload_n 0, 1) := by decide +kernel
theorem dX7_away_167 : decode cX7_away 167 = .ok (.iconst 3, 1) := by decide +kernel
theorem dX7_away_168 : decode cX7_away 168 = .ok (.invokevirtual 128, 3) := by decide +kernel
theorem dX7_away_171 : decode cX7_away 171 = .ok (.goto 5, 3) := by decide +kernel
theorem dX7_away_174 : decode cX7_away 174 = .ok (.iload 4, 2) := by decide +kernel
theorem dX7_away_176 : decode cX7_away 176 = .ok (.ireturn, 1) := by decide +kernel
theorem dX7_fitting_0 : decode cX7_fitting 0 = .ok (.aload_n 0, 1) := by decide +kernel
theorem dX7_fitting_1 : decode cX7_fitting 1 = .ok (.getfield 7, 3) := by decide +kernel
theorem dX7_fitting_4 : decode cX7_fitting 4 = .ok (.aload_n 0, 1) := by decide +kernel
theorem dX7_fitting_5 : decode cX7_fitting 5 = .ok (.getfield 16, 3) := by decide +kernel
theorem dX7_fitting_8 : decode cX7_fitting 8 = .ok (.invokestatic 167, 3) := by decide +kernel
theorem dX7_fitting_11 : decode cX7_fitting 11 = .ok (.iconst 0, 1) := by decide +kernel
theorem dX7_fitting_12 : decode cX7_fitting 12 = .ok (.istore 5, 2) := by decide +kernel
theorem dX7_fitting_14 : decode cX7_fitting 14 = .ok (.iconst 0, 1) := by decide +kernel
theorem dX7_fitting_15 : decode cX7_fitting 15 = .ok (.istore 6, 2) := by decide +kernel
theorem dX7_fitting_17 : decode cX7_fitting 17 = .ok (.iload 6, 2) := by decide +kernel
theorem dX7_fitting_19 : decode cX7_fitting 19 = .ok (.iload 4, 2) := by decide +kernel
theorem dX7_fitting_21 : decode cX7_fitting 21 = .ok (.if_icmp .gt 116, 3) := by decide +kernel
theorem dX7_fitting_24 : decode cX7_fitting 24 = .ok (.aload_n 0, 1) := by decide +kernel
theorem dX7_fitting_25 : decode cX7_fitting 25 = .ok (.iload_n 2, 1) := by decide +kernel
theorem dX7_fitting_26 : decode cX7_fitting 26 = .ok (.iload_n 3, 1) := by decide +kernel
theorem dX7_fitting_27 : decode cX7_fitting 27 = .ok (.iload 6, 2) := by decide +kernel
theorem dX7_fitting_29 : decode cX7_fitting 29 = .ok (.invokevirtual 90, 3) := by decide +kernel
theorem dX7_fitting_32 : decode cX7_fitting 32 = .ok (.iconst 1, 1) := by decide +kernel
theorem dX7_fitting_33 : decode cX7_fitting 33 = .ok (.istore 7, 2) := by decide +kernel
theorem dX7_fitting_35 : decode cX7_fitting 35 = .ok (.iconst 0, 1) := by decide +kernel
theorem dX7_fitting_36 : decode cX7_fitting 36 = .ok (.istore 8, 2) := by decide +kernel
theorem dX7_fitting_38 : decode cX7_fitting 38 = .ok (.iload 8, 2) := by decide +kernel
theorem dX7_fitting_40 : decode cX7_fitting 40 = .ok (.aload_n 0, 1) := by decide +kernel
theorem dX7_fitting_41 : decode cX7_fitting 41 = .ok (.getfield 32, 3) := by decide +kernel
theorem dX7_fitting_44 : decode cX7_fitting 44 = .ok (.iload_n 1, 1) := by decide +kernel
theorem dX7_fitting_45 : decode cX7_fitting 45 = .ok (.iaload, 1) := by decide +kernel
theorem dX7_fitting_46 : decode cX7_fitting 46 = .ok (.if_icmp .ge 56, 3) := by decide +kernel
theorem dX7_fitting_49 : decode cX7_fitting 49 = .ok (.iload 7, 2) := by decide +kernel
theorem dX7_fitting_51 : decode cX7_fitting 51 = .ok (.ifCond .eq 51, 3) := by decide +kernel
theorem dX7_fitting_54 : decode cX7_fitting 54 = .ok (.aload_n 0, 1) := by decide +kernel
theorem dX7_fitting_55 : decode cX7_fitting 55 = .ok (.getfield 35, 3) := by decide +kernel
theorem dX7_fitting_58 : decode cX7_fitting 58 = .ok (.bipush 40, 2) := by decide +kernel
theorem dX7_fitting_60 : decode cX7_fitting 60 = .ok (.iload_n 1, 1) := by decide +kernel
theorem dX7_fitting_61 : decode cX7_fitting 61 = .ok (.imul, 1) := by decide +kernel
theorem dX7_fitting_62 : decode cX7_fitting 62 = .ok (.iload 8, 2) := by decide +kernel
theorem dX7_fitting_64 : decode cX7_fitting 64 = .ok (.iadd, 1) := by decide +kernel
theorem dX7_fitting_65 : decode cX7_fitting 65 = .ok (.iaload, 1) := by decide +kernel
theorem dX7_fitting_66 : decode cX7_fitting 66 = .ok (.istore 9, 2) := by decide +kernel
theorem dX7_fitting_68 : decode cX7_fitting 68 = .ok (.iload 9, 2) := by decide +kernel
theorem dX7_fitting_70 : decode cX7_fitting 70 = .ok (.iconst (-1), 1) := by decide +kernel
theorem dX7_fitting_71 : decode cX7_fitting 71 = .ok (.if_icmp .eq 14, 3) := by decide +kernel
theorem dX7_fitting_74 : decode cX7_fitting 74 = .ok (.iload 9, 2) := by decide +kernel
theorem dX7_fitting_76 : decode cX7_fitting 76 = .ok (.aload_n 0, 1) := by decide +kernel
theorem dX7_fitting_77 : decode cX7_fitting 77 = .ok (.iload_n 2, 1) := by decide +kernel
theorem dX7_fitting_78 : decode cX7_fitting 78 = .ok (.iconst 3, 1) := by decide +kernel
theorem dX7_fitting_79 : decode cX7_fitting 79 = .ok (.invokevirtual 58, 3) := by decide +kernel
theorem dX7_fitting_82 : decode cX7_fitting 82 = .ok (.if_icmp .ne 7, 3) := by decide +kernel
theorem dX7_fitting_85 : decode cX7_fitting 85 = .ok (.iconst 1, 1) := by decide +kernel
theorem dX7_fitting_86 : decode cX7_fitting 86 = .ok (.goto 4, 3) := by decide +kernel
theorem dX7_fitting_89 : decode cX7_fitting 89 = .ok (.iconst 0, 1) := by decide +kernel
theorem dX7_fitting_90 : decode cX7_fitting 90 = .ok (.istore 7, 2) := by decide +kernel
theorem dX7_fitting_92 : decode cX7_fitting 92 = .ok (.aload_n 0, 1) := by decide +kernel
theorem dX7_fitting_93 : decode cX7_fitting 93 = .ok (.invokevirtual 113, 3) := by decide +kernel
theorem dX7_fitting_96 : decode cX7_fitting 96 = .ok (.iinc 8 1, 3) := by decide +kernel
theorem dX7_fitting_99 : decode cX7_fitting 99 = .ok (.goto (-61), 3) := by decide +kernel
theorem dX7_fitting_102 : decode cX7_fitting 102 = .ok (.aload_n 0, 1) := by decide +kernel
theorem dX7_fitting_103 : decode cX7_fitting 103 = .ok (.getfield 16, 3) := by decide +kernel
theorem dX7_fitting_106 : decode cX7_fitting 106 = .ok (.aload_n 0, 1) := by decide +kernel
theorem dX7_fitting_107 : decode cX7_fitting 107 = .ok (.getfield 7, 3) := by decide +kernel
theorem dX7_fitting_110 : decode cX7_fitting 110 = .ok (.invokestatic 167, 3) := by decide +kernel
theorem dX7_fitting_113 : decode cX7_fitting 113 = .ok (.iload 5, 2) := by decide +kernel
theorem dX7_fitting_115 : decode cX7_fitting 115 = .ok (.iload 7, 2) := by decide +kernel
theorem dX7_fitting_117 : decode cX7_fitting 117 = .ok (.ifCond .eq 10, 3) := by decide +kernel
theorem dX7_fitting_120 : decode cX7_fitting 120 = .ok (.iconst 1, 1) := by decide +kernel
theorem dX7_fitting_121 : decode cX7_fitting 121 = .ok (.iload 6, 2) := by decide +kernel
theorem dX7_fitting_123 : decode cX7_fitting 123 = .ok (.ishl, 1) := by decide +kernel
theorem dX7_fitting_124 : decode cX7_fitting 124 = .ok (.goto 4, 3) := by decide +kernel
theorem dX7_fitting_127 : decode cX7_fitting 127 = .ok (.iconst 0, 1) := by decide +kernel
theorem dX7_fitting_128 : decode cX7_fitting 128 = .ok (.ior, 1) := by decide +kernel
theorem dX7_fitting_129 : decode cX7_fitting 129 = .ok (.istore 5, 2) := by decide +kernel
theorem dX7_fitting_131 : decode cX7_fitting 131 = .ok (.iinc 6 1, 3) := by decide +kernel
theorem dX7_fitting_134 : decode cX7_fitting 134 = .ok (.goto (-117), 3) := by decide +kernel
theorem dX7_fitting_137 : decode cX7_fitting 137 = .ok (.iload 5, 2) := by decide +kernel
theorem dX7_fitting_139 : decode cX7_fitting 139 = .ok (.ireturn, 1) := by decide +kernel
theorem dX7_whyNot_0 : decode cX7_whyNot 0 = .ok (.aload_n 0, 1) := by decide +kernel
theorem dX7_whyNot_1 : decode cX7_whyNot 1 = .ok (.iload_n 1, 1) := by decide +kernel
theorem dX7_whyNot_2 : decode cX7_whyNot 2 = .ok (.invokevirtual 190, 3) := by decide +kernel
theorem dX7_whyNot_5 : decode cX7_whyNot 5 = .ok (.istore_n 3, 1) := by decide +kernel
theorem dX7_whyNot_6 : decode cX7_whyNot 6 = .ok (.iload_n 3, 1) := by decide +kernel
theorem dX7_whyNot_7 : decode cX7_whyNot 7 = .ok (.ifCond .lt 7, 3) := by decide +kernel
theorem dX7_whyNot_10 : decode cX7_whyNot 10 = .ok (.iload_n 3, 1) := by decide +kernel
theorem dX7_whyNot_11 : decode cX7_whyNot 11 = .ok (.goto 16, 3) := by decide +kernel
theorem dX7_whyNot_14 : decode cX7_whyNot 14 = .ok (.aload_n 0, 1) := by decide +kernel
theorem dX7_whyNot_15 : decode cX7_whyNot 15 = .ok (.iload_n 2, 1) := by decide +kernel
theorem dX7_whyNot_16 : decode cX7_whyNot 16 = .ok (.invokevirtual 138, 3) := by decide +kernel
theorem dX7_whyNot_19 : decode cX7_whyNot 19 = .ok (.ifCond .eq 7, 3) := by decide +kernel
theorem dX7_whyNot_22 : decode cX7_whyNot 22 = .ok (.iconst (-1), 1) := by decide +kernel
theorem dX7_whyNot_23 : decode cX7_whyNot 23 = .ok (.goto 4, 3) := by decide +kernel
theorem dX7_whyNot_26 : decode cX7_whyNot 26 = .ok (.iconst 0, 1) := by decide +kernel
theorem dX7_whyNot_27 : decode cX7_whyNot 27 = .ok (.ireturn, 1) := by decide +kernel
theorem dX7_fits_0 : decode cX7_fits 0 = .ok (.aload_n 0, 1) := by decide +kernel
theorem dX7_fits_1 : decode cX7_fits 1 = .ok (.iload_n 1, 1) := by decide +kernel
theorem dX7_fits_2 : decode cX7_fits 2 = .ok (.iload_n 2, 1) := by decide +kernel
theorem dX7_fits_3 : decode cX7_fits 3 = .ok (.invokevirtual 193, 3) := by decide +kernel
theorem dX7_fits_6 : decode cX7_fits 6 = .ok (.istore_n 3, 1) := by decide +kernel
theorem dX7_fits_7 : decode cX7_fits 7 = .ok (.iload_n 3, 1) := by decide +kernel
theorem dX7_fits_8 : decode cX7_fits 8 = .ok (.ifCond .lt 11, 3) := by decide +kernel
theorem dX7_fits_11 : decode cX7_fits 11 = .ok (.aload_n 0, 1) := by decide +kernel
theorem dX7_fits_12 : decode cX7_fits 12 = .ok (.iload_n 3, 1) := by decide +kernel
theorem dX7_fits_13 : decode cX7_fits 13 = .ok (.invokevirtual 128, 3) := by decide +kernel
theorem dX7_fits_16 : decode cX7_fits 16 = .ok (.goto 11, 3) := by decide +kernel
theorem dX7_fits_19 : decode cX7_fits 19 = .ok (.aload_n 0, 1) := by decide +kernel
theorem dX7_fits_20 : decode cX7_fits 20 = .ok (.iload_n 1, 1) := by decide +kernel
theorem dX7_fits_21 : decode cX7_fits 21 = .ok (.iload_n 2, 1) := by decide +kernel
theorem dX7_fits_22 : decode cX7_fits 22 = .ok (.iconst 1, 1) := by decide +kernel
theorem dX7_fits_23 : decode cX7_fits 23 = .ok (.iconst 5, 1) := by decide +kernel
theorem dX7_fits_24 : decode cX7_fits 24 = .ok (.invokevirtual 196, 3) := by decide +kernel
theorem dX7_fits_27 : decode cX7_fits 27 = .ok (.ireturn, 1) := by decide +kernel
theorem dX7_kinds_0 : decode cX7_kinds 0 = .ok (.aload_n 0, 1) := by decide +kernel
theorem dX7_kinds_1 : decode cX7_kinds 1 = .ok (.iload_n 1, 1) := by decide +kernel
theorem dX7_kinds_2 : decode cX7_kinds 2 = .ok (.iload_n 2, 1) := by decide +kernel
theorem dX7_kinds_3 : decode cX7_kinds 3 = .ok (.invokevirtual 193, 3) := by decide +kernel
theorem dX7_kinds_6 : decode cX7_kinds 6 = .ok (.istore_n 3, 1) := by decide +kernel
theorem dX7_kinds_7 : decode cX7_kinds 7 = .ok (.iload_n 3, 1) := by decide +kernel
theorem dX7_kinds_8 : decode cX7_kinds 8 = .ok (.ifCond .lt 11, 3) := by decide +kernel
theorem dX7_kinds_11 : decode cX7_kinds 11 = .ok (.aload_n 0, 1) := by decide +kernel
theorem dX7_kinds_12 : decode cX7_kinds 12 = .ok (.iload_n 3, 1) := by decide +kernel
theorem dX7_kinds_13 : decode cX7_kinds 13 = .ok (.invokevirtual 128, 3) := by decide +kernel
theorem dX7_kinds_16 : decode cX7_kinds 16 = .ok (.goto 12, 3) := by decide +kernel
theorem dX7_kinds_19 : decode cX7_kinds 19 = .ok (.aload_n 0, 1) := by decide +kernel
theorem dX7_kinds_20 : decode cX7_kinds 20 = .ok (.iload_n 1, 1) := by decide +kernel
theorem dX7_kinds_21 : decode cX7_kinds 21 = .ok (.iload_n 2, 1) := by decide +kernel
theorem dX7_kinds_22 : decode cX7_kinds 22 = .ok (.iconst 0, 1) := by decide +kernel
theorem dX7_kinds_23 : decode cX7_kinds 23 = .ok (.bipush 6, 2) := by decide +kernel
theorem dX7_kinds_25 : decode cX7_kinds 25 = .ok (.invokevirtual 196, 3) := by decide +kernel
theorem dX7_kinds_28 : decode cX7_kinds 28 = .ok (.ireturn, 1) := by decide +kernel
theorem dX7_drawOne_0 : decode cX7_drawOne 0 = .ok (.aload_n 0, 1) := by decide +kernel
theorem dX7_drawOne_1 : decode cX7_drawOne 1 = .ok (.getfield 7, 3) := by decide +kernel
theorem dX7_drawOne_4 : decode cX7_drawOne 4 = .ok (.iconst 2, 1) := by decide +kernel
theorem dX7_drawOne_5 : decode cX7_drawOne 5 = .ok (.aload_n 0, 1) := by decide +kernel
theorem dX7_drawOne_6 : decode cX7_drawOne 6 = .ok (.getfield 7, 3) := by decide +kernel
theorem dX7_drawOne_9 : decode cX7_drawOne 9 = .ok (.iconst 2, 1) := by decide +kernel
theorem dX7_drawOne_10 : decode cX7_drawOne 10 = .ok (.iaload, 1) := by decide +kernel
theorem dX7_drawOne_11 : decode cX7_drawOne 11 = .ok (.ldc 199, 2) := by decide +kernel
theorem dX7_drawOne_13 : decode cX7_drawOne 13 = .ok (.imul, 1) := by decide +kernel
theorem dX7_drawOne_14 : decode cX7_drawOne 14 = .ok (.sipush 12345, 3) := by decide +kernel
theorem dX7_drawOne_17 : decode cX7_drawOne 17 = .ok (.iadd, 1) := by decide +kernel
theorem dX7_drawOne_18 : decode cX7_drawOne 18 = .ok (.iastore, 1) := by decide +kernel
theorem dX7_drawOne_19 : decode cX7_drawOne 19 = .ok (.aload_n 0, 1) := by decide +kernel
theorem dX7_drawOne_20 : decode cX7_drawOne 20 = .ok (.getfield 7, 3) := by decide +kernel
theorem dX7_drawOne_23 : decode cX7_drawOne 23 = .ok (.iconst 2, 1) := by decide +kernel
theorem dX7_drawOne_24 : decode cX7_drawOne 24 = .ok (.iaload, 1) := by decide +kernel
theorem dX7_drawOne_25 : decode cX7_drawOne 25 = .ok (.bipush 8, 2) := by decide +kernel
theorem dX7_drawOne_27 : decode cX7_drawOne 27 = .ok (.iushr, 1) := by decide +kernel
theorem dX7_drawOne_28 : decode cX7_drawOne 28 = .ok (.ireturn, 1) := by decide +kernel
theorem dX7_talk_0 : decode cX7_talk 0 = .ok (.iload_n 1, 1) := by decide +kernel
theorem dX7_talk_1 : decode cX7_talk 1 = .ok (.i2l, 1) := by decide +kernel
theorem dX7_talk_2 : decode cX7_talk 2 = .ok (.lconst 1, 1) := by decide +kernel
theorem dX7_talk_3 : decode cX7_talk 3 = .ok (.ldc2_w 188, 3) := by decide +kernel
theorem dX7_talk_6 : decode cX7_talk 6 = .ok (.invokestatic 42, 3) := by decide +kernel
theorem dX7_talk_9 : decode cX7_talk 9 = .ok (.ifCond .ne 9, 3) := by decide +kernel
theorem dX7_talk_12 : decode cX7_talk 12 = .ok (.aload_n 0, 1) := by decide +kernel
theorem dX7_talk_13 : decode cX7_talk 13 = .ok (.iconst 0, 1) := by decide +kernel
theorem dX7_talk_14 : decode cX7_talk 14 = .ok (.invokevirtual 128, 3) := by decide +kernel
theorem dX7_talk_17 : decode cX7_talk 17 = .ok (.ireturn, 1) := by decide +kernel
theorem dX7_talk_18 : decode cX7_talk 18 = .ok (.aload_n 0, 1) := by decide +kernel
theorem dX7_talk_19 : decode cX7_talk 19 = .ok (.getfield 7, 3) := by decide +kernel
theorem dX7_talk_22 : decode cX7_talk 22 = .ok (.iconst 1, 1) := by decide +kernel
theorem dX7_talk_23 : decode cX7_talk 23 = .ok (.iaload, 1) := by decide +kernel
theorem dX7_talk_24 : decode cX7_talk 24 = .ok (.iload_n 1, 1) := by decide +kernel
theorem dX7_talk_25 : decode cX7_talk 25 = .ok (.iadd, 1) := by decide +kernel
theorem dX7_talk_26 : decode cX7_talk 26 = .ok (.ldc 112, 2) := by decide +kernel
theorem dX7_talk_28 : decode cX7_talk 28 = .ok (.if_icmp .le 9, 3) := by decide +kernel
theorem dX7_talk_31 : decode cX7_talk 31 = .ok (.aload_n 0, 1) := by decide +kernel
theorem dX7_talk_32 : decode cX7_talk 32 = .ok (.iconst 4, 1) := by decide +kernel
theorem dX7_talk_33 : decode cX7_talk 33 = .ok (.invokevirtual 128, 3) := by decide +kernel
theorem dX7_talk_36 : decode cX7_talk 36 = .ok (.ireturn, 1) := by decide +kernel
theorem dX7_talk_37 : decode cX7_talk 37 = .ok (.iconst 0, 1) := by decide +kernel
theorem dX7_talk_38 : decode cX7_talk 38 = .ok (.istore_n 2, 1) := by decide +kernel
theorem dX7_talk_39 : decode cX7_talk 39 = .ok (.iload_n 2, 1) := by decide +kernel
theorem dX7_talk_40 : decode cX7_talk 40 = .ok (.iload_n 1, 1) := by decide +kernel
theorem dX7_talk_41 : decode cX7_talk 41 = .ok (.if_icmp .ge 69, 3) := by decide +kernel
theorem dX7_talk_44 : decode cX7_talk 44 = .ok (.aload_n 0, 1) := by decide +kernel
theorem dX7_talk_45 : decode cX7_talk 45 = .ok (.invokevirtual 200, 3) := by decide +kernel
theorem dX7_talk_48 : decode cX7_talk 48 = .ok (.bipush 6, 2) := by decide +kernel
theorem dX7_talk_50 : decode cX7_talk 50 = .ok (.irem, 1) := by decide +kernel
theorem dX7_talk_51 : decode cX7_talk 51 = .ok (.istore_n 3, 1) := by decide +kernel
theorem dX7_talk_52 : decode cX7_talk 52 = .ok (.aload_n 0, 1) := by decide +kernel
theorem dX7_talk_53 : decode cX7_talk 53 = .ok (.invokevirtual 200, 3) := by decide +kernel
theorem dX7_talk_56 : decode cX7_talk 56 = .ok (.bipush 16, 2) := by decide +kernel
theorem dX7_talk_58 : decode cX7_talk 58 = .ok (.irem, 1) := by decide +kernel
theorem dX7_talk_59 : decode cX7_talk 59 = .ok (.istore 4, 2) := by decide +kernel
theorem dX7_talk_61 : decode cX7_talk 61 = .ok (.aload_n 0, 1) := by decide +kernel
theorem dX7_talk_62 : decode cX7_talk 62 = .ok (.invokevirtual 200, 3) := by decide +kernel
theorem dX7_talk_65 : decode cX7_talk 65 = .ok (.bipush 10, 2) := by decide +kernel
theorem dX7_talk_67 : decode cX7_talk 67 = .ok (.irem, 1) := by decide +kernel
theorem dX7_talk_68 : decode cX7_talk 68 = .ok (.istore 5, 2) := by decide +kernel
theorem dX7_talk_70 : decode cX7_talk 70 = .ok (.aload_n 0, 1) := by decide +kernel
theorem dX7_talk_71 : decode cX7_talk 71 = .ok (.getfield 7, 3) := by decide +kernel
theorem dX7_talk_74 : decode cX7_talk 74 = .ok (.iconst 3, 1) := by decide +kernel
theorem dX7_talk_75 : decode cX7_talk 75 = .ok (.aload_n 0, 1) := by decide +kernel
theorem dX7_talk_76 : decode cX7_talk 76 = .ok (.getfield 7, 3) := by decide +kernel
theorem dX7_talk_79 : decode cX7_talk 79 = .ok (.iconst 1, 1) := by decide +kernel
theorem dX7_talk_80 : decode cX7_talk 80 = .ok (.iaload, 1) := by decide +kernel
theorem dX7_talk_81 : decode cX7_talk 81 = .ok (.bipush 6, 2) := by decide +kernel
theorem dX7_talk_83 : decode cX7_talk 83 = .ok (.irem, 1) := by decide +kernel
theorem dX7_talk_84 : decode cX7_talk 84 = .ok (.iadd, 1) := by decide +kernel
theorem dX7_talk_85 : decode cX7_talk 85 = .ok (.sipush 1000, 3) := by decide +kernel
theorem dX7_talk_88 : decode cX7_talk 88 = .ok (.iload_n 3, 1) := by decide +kernel
theorem dX7_talk_89 : decode cX7_talk 89 = .ok (.imul, 1) := by decide +kernel
theorem dX7_talk_90 : decode cX7_talk 90 = .ok (.bipush 10, 2) := by decide +kernel
theorem dX7_talk_92 : decode cX7_talk 92 = .ok (.iload 4, 2) := by decide +kernel
theorem dX7_talk_94 : decode cX7_talk 94 = .ok (.imul, 1) := by decide +kernel
theorem dX7_talk_95 : decode cX7_talk 95 = .ok (.iadd, 1) := by decide +kernel
theorem dX7_talk_96 : decode cX7_talk 96 = .ok (.iload 5, 2) := by decide +kernel
theorem dX7_talk_98 : decode cX7_talk 98 = .ok (.iadd, 1) := by decide +kernel
theorem dX7_talk_99 : decode cX7_talk 99 = .ok (.iastore, 1) := by decide +kernel
theorem dX7_talk_100 : decode cX7_talk 100 = .ok (.aload_n 0, 1) := by decide +kernel
theorem dX7_talk_101 : decode cX7_talk 101 = .ok (.invokevirtual 113, 3) := by decide +kernel
theorem dX7_talk_104 : decode cX7_talk 104 = .ok (.iinc 2 1, 3) := by decide +kernel
theorem dX7_talk_107 : decode cX7_talk 107 = .ok (.goto (-68), 3) := by decide +kernel
theorem dX7_talk_110 : decode cX7_talk 110 = .ok (.aload_n 0, 1) := by decide +kernel
theorem dX7_talk_111 : decode cX7_talk 111 = .ok (.invokevirtual 155, 3) := by decide +kernel
theorem dX7_talk_114 : decode cX7_talk 114 = .ok (.ireturn, 1) := by decide +kernel
theorem dX7_odds_0 : decode cX7_odds 0 = .ok (.aload_n 0, 1) := by decide +kernel
theorem dX7_odds_1 : decode cX7_odds 1 = .ok (.iload_n 1, 1) := by decide +kernel
theorem dX7_odds_2 : decode cX7_odds 2 = .ok (.invokevirtual 138, 3) := by decide +kernel
theorem dX7_odds_5 : decode cX7_odds 5 = .ok (.ifCond .eq 25, 3) := by decide +kernel
theorem dX7_odds_8 : decode cX7_odds 8 = .ok (.iload_n 2, 1) := by decide +kernel
theorem dX7_odds_9 : decode cX7_odds 9 = .ok (.i2l, 1) := by decide +kernel
theorem dX7_odds_10 : decode cX7_odds 10 = .ok (.lconst 0, 1) := by decide +kernel
theorem dX7_odds_11 : decode cX7_odds 11 = .ok (.ldc2_w 46, 3) := by decide +kernel
theorem dX7_odds_14 : decode cX7_odds 14 = .ok (.invokestatic 42, 3) := by decide +kernel
theorem dX7_odds_17 : decode cX7_odds 17 = .ok (.ifCond .eq 13, 3) := by decide +kernel
theorem dX7_odds_20 : decode cX7_odds 20 = .ok (.iload_n 3, 1) := by decide +kernel
theorem dX7_odds_21 : decode cX7_odds 21 = .ok (.i2l, 1) := by decide +kernel
theorem dX7_odds_22 : decode cX7_odds 22 = .ok (.lconst 0, 1) := by decide +kernel
theorem dX7_odds_23 : decode cX7_odds 23 = .ok (.lconst 1, 1) := by decide +kernel
theorem dX7_odds_24 : decode cX7_odds 24 = .ok (.invokestatic 42, 3) := by decide +kernel
theorem dX7_odds_27 : decode cX7_odds 27 = .ok (.ifCond .ne 10, 3) := by decide +kernel
theorem dX7_odds_30 : decode cX7_odds 30 = .ok (.aload_n 0, 1) := by decide +kernel
theorem dX7_odds_31 : decode cX7_odds 31 = .ok (.iconst 0, 1) := by decide +kernel
theorem dX7_odds_32 : decode cX7_odds 32 = .ok (.invokevirtual 128, 3) := by decide +kernel
theorem dX7_odds_35 : decode cX7_odds 35 = .ok (.i2l, 1) := by decide +kernel
theorem dX7_odds_36 : decode cX7_odds 36 = .ok (.lreturn, 1) := by decide +kernel
theorem dX7_odds_37 : decode cX7_odds 37 = .ok (.aload_n 0, 1) := by decide +kernel
theorem dX7_odds_38 : decode cX7_odds 38 = .ok (.iload_n 1, 1) := by decide +kernel
theorem dX7_odds_39 : decode cX7_odds 39 = .ok (.iconst 5, 1) := by decide +kernel
theorem dX7_odds_40 : decode cX7_odds 40 = .ok (.invokevirtual 58, 3) := by decide +kernel
theorem dX7_odds_43 : decode cX7_odds 43 = .ok (.invokestatic 84, 3) := by decide +kernel
theorem dX7_odds_46 : decode cX7_odds 46 = .ok (.istore 4, 2) := by decide +kernel
theorem dX7_odds_48 : decode cX7_odds 48 = .ok (.bipush 16, 2) := by decide +kernel
theorem dX7_odds_50 : decode cX7_odds 50 = .ok (.istore 5, 2) := by decide +kernel
theorem dX7_odds_52 : decode cX7_odds 52 = .ok (.iload 4, 2) := by decide +kernel
theorem dX7_odds_54 : decode cX7_odds 54 = .ok (.iconst 2, 1) := by decide +kernel
theorem dX7_odds_55 : decode cX7_odds 55 = .ok (.irem, 1) := by decide +kernel
theorem dX7_odds_56 : decode cX7_odds 56 = .ok (.ifCond .ne 24, 3) := by decide +kernel
theorem dX7_odds_59 : decode cX7_odds 59 = .ok (.iload 5, 2) := by decide +kernel
theorem dX7_odds_61 : decode cX7_odds 61 = .ok (.iconst 1, 1) := by decide +kernel
theorem dX7_odds_62 : decode cX7_odds 62 = .ok (.if_icmp .le 18, 3) := by decide +kernel
theorem dX7_odds_65 : decode cX7_odds 65 = .ok (.iload 4, 2) := by decide +kernel
theorem dX7_odds_67 : decode cX7_odds 67 = .ok (.iconst 2, 1) := by decide +kernel
theorem dX7_odds_68 : decode cX7_odds 68 = .ok (.idiv, 1) := by decide +kernel
theorem dX7_odds_69 : decode cX7_odds 69 = .ok (.istore 4, 2) := by decide +kernel
theorem dX7_odds_71 : decode cX7_odds 71 = .ok (.iload 5, 2) := by decide +kernel
theorem dX7_odds_73 : decode cX7_odds 73 = .ok (.iconst 2, 1) := by decide +kernel
theorem dX7_odds_74 : decode cX7_odds 74 = .ok (.idiv, 1) := by decide +kernel
theorem dX7_odds_75 : decode cX7_odds 75 = .ok (.istore 5, 2) := by decide +kernel
theorem dX7_odds_77 : decode cX7_odds 77 = .ok (.goto (-25), 3) := by decide +kernel
theorem dX7_odds_80 : decode cX7_odds 80 = .ok (.lconst 1, 1) := by decide +kernel
theorem dX7_odds_81 : decode cX7_odds 81 = .ok (.lstore 6, 2) := by decide +kernel
theorem dX7_odds_83 : decode cX7_odds 83 = .ok (.iconst 0, 1) := by decide +kernel
theorem dX7_odds_84 : decode cX7_odds 84 = .ok (.istore 8, 2) := by decide +kernel
theorem dX7_odds_86 : decode cX7_odds 86 = .ok (.iload 8, 2) := by decide +kernel
theorem dX7_odds_88 : decode cX7_odds 88 = .ok (.iload_n 2, 1) := by decide +kernel
theorem dX7_odds_89 : decode cX7_odds 89 = .ok (.if_icmp .ge 27, 3) := by decide +kernel
theorem dX7_odds_92 : decode cX7_odds 92 = .ok (.lload 6, 2) := by decide +kernel
theorem dX7_odds_94 : decode cX7_odds 94 = .ok (.iload_n 3, 1) := by decide +kernel
theorem dX7_odds_95 : decode cX7_odds 95 = .ok (.ifCond .ne 9, 3) := by decide +kernel
theorem dX7_odds_98 : decode cX7_odds 98 = .ok (.iload 4, 2) := by decide +kernel
theorem dX7_odds_100 : decode cX7_odds 100 = .ok (.i2l, 1) := by decide +kernel
theorem dX7_odds_101 : decode cX7_odds 101 = .ok (.goto 6, 3) := by decide +kernel
theorem dX7_odds_104 : decode cX7_odds 104 = .ok (.iload 5, 2) := by decide +kernel
theorem dX7_odds_106 : decode cX7_odds 106 = .ok (.i2l, 1) := by decide +kernel
theorem dX7_odds_107 : decode cX7_odds 107 = .ok (.lmul, 1) := by decide +kernel
theorem dX7_odds_108 : decode cX7_odds 108 = .ok (.lstore 6, 2) := by decide +kernel
theorem dX7_odds_110 : decode cX7_odds 110 = .ok (.iinc 8 1, 3) := by decide +kernel
theorem dX7_odds_113 : decode cX7_odds 113 = .ok (.goto (-27), 3) := by decide +kernel
theorem dX7_odds_116 : decode cX7_odds 116 = .ok (.lload 6, 2) := by decide +kernel
theorem dX7_odds_118 : decode cX7_odds 118 = .ok (.lreturn, 1) := by decide +kernel
theorem dX7_seed_0 : decode cX7_seed 0 = .ok (.aload_n 0, 1) := by decide +kernel
theorem dX7_seed_1 : decode cX7_seed 1 = .ok (.iconst 2, 1) := by decide +kernel
theorem dX7_seed_2 : decode cX7_seed 2 = .ok (.iload_n 1, 1) := by decide +kernel
theorem dX7_seed_3 : decode cX7_seed 3 = .ok (.invokevirtual 125, 3) := by decide +kernel
theorem dX7_seed_6 : decode cX7_seed 6 = .ok (.ireturn, 1) := by decide +kernel
theorem dX7_feed_0 : decode cX7_feed 0 = .ok (.iload_n 2, 1) := by decide +kernel
theorem dX7_feed_1 : decode cX7_feed 1 = .ok (.i2l, 1) := by decide +kernel
theorem dX7_feed_2 : decode cX7_feed 2 = .ok (.lconst 1, 1) := by decide +kernel
theorem dX7_feed_3 : decode cX7_feed 3 = .ok (.ldc2_w 203, 3) := by decide +kernel
theorem dX7_feed_6 : decode cX7_feed 6 = .ok (.invokestatic 42, 3) := by decide +kernel
theorem dX7_feed_9 : decode cX7_feed 9 = .ok (.ifCond .ne 9, 3) := by decide +kernel
theorem dX7_feed_12 : decode cX7_feed 12 = .ok (.aload_n 0, 1) := by decide +kernel
theorem dX7_feed_13 : decode cX7_feed 13 = .ok (.iconst 0, 1) := by decide +kernel
theorem dX7_feed_14 : decode cX7_feed 14 = .ok (.invokevirtual 128, 3) := by decide +kernel
theorem dX7_feed_17 : decode cX7_feed 17 = .ok (.ireturn, 1) := by decide +kernel
theorem dX7_feed_18 : decode cX7_feed 18 = .ok (.aload_n 0, 1) := by decide +kernel
theorem dX7_feed_19 : decode cX7_feed 19 = .ok (.getfield 205, 3) := by decide +kernel
theorem dX7_feed_22 : decode cX7_feed 22 = .ok (.iload_n 2, 1) := by decide +kernel
theorem dX7_feed_23 : decode cX7_feed 23 = .ok (.iadd, 1) := by decide +kernel
theorem dX7_feed_24 : decode cX7_feed 24 = .ok (.bipush 120, 2) := by decide +kernel
theorem dX7_feed_26 : decode cX7_feed 26 = .ok (.if_icmp .le 9, 3) := by decide +kernel
theorem dX7_feed_29 : decode cX7_feed 29 = .ok (.aload_n 0, 1) := by decide +kernel
theorem dX7_feed_30 : decode cX7_feed 30 = .ok (.iconst 1, 1) := by decide +kernel
theorem dX7_feed_31 : decode cX7_feed 31 = .ok (.invokevirtual 128, 3) := by decide +kernel
theorem dX7_feed_34 : decode cX7_feed 34 = .ok (.ireturn, 1) := by decide +kernel
theorem dX7_feed_35 : decode cX7_feed 35 = .ok (.iload_n 2, 1) := by decide +kernel
theorem dX7_feed_36 : decode cX7_feed 36 = .ok (.iconst 1, 1) := by decide +kernel
theorem dX7_feed_37 : decode cX7_feed 37 = .ok (.isub, 1) := by decide +kernel
theorem dX7_feed_38 : decode cX7_feed 38 = .ok (.istore_n 3, 1) := by decide +kernel
theorem dX7_feed_39 : decode cX7_feed 39 = .ok (.iload_n 3, 1) := by decide +kernel
theorem dX7_feed_40 : decode cX7_feed 40 = .ok (.ifCond .lt 35, 3) := by decide +kernel
theorem dX7_feed_43 : decode cX7_feed 43 = .ok (.aload_n 0, 1) := by decide +kernel
theorem dX7_feed_44 : decode cX7_feed 44 = .ok (.getfield 25, 3) := by decide +kernel
theorem dX7_feed_47 : decode cX7_feed 47 = .ok (.aload_n 0, 1) := by decide +kernel
theorem dX7_feed_48 : decode cX7_feed 48 = .ok (.getfield 205, 3) := by decide +kernel
theorem dX7_feed_51 : decode cX7_feed 51 = .ok (.iload_n 1, 1) := by decide +kernel
theorem dX7_feed_52 : decode cX7_feed 52 = .ok (.bipush 8, 2) := by decide +kernel
theorem dX7_feed_54 : decode cX7_feed 54 = .ok (.iload_n 3, 1) := by decide +kernel
theorem dX7_feed_55 : decode cX7_feed 55 = .ok (.imul, 1) := by decide +kernel
theorem dX7_feed_56 : decode cX7_feed 56 = .ok (.ishr, 1) := by decide +kernel
theorem dX7_feed_57 : decode cX7_feed 57 = .ok (.i2b, 1) := by decide +kernel
theorem dX7_feed_58 : decode cX7_feed 58 = .ok (.bastore, 1) := by decide +kernel
theorem dX7_feed_59 : decode cX7_feed 59 = .ok (.aload_n 0, 1) := by decide +kernel
theorem dX7_feed_60 : decode cX7_feed 60 = .ok (.dup, 1) := by decide +kernel
theorem dX7_feed_61 : decode cX7_feed 61 = .ok (.getfield 205, 3) := by decide +kernel
theorem dX7_feed_64 : decode cX7_feed 64 = .ok (.iconst 1, 1) := by decide +kernel
theorem dX7_feed_65 : decode cX7_feed 65 = .ok (.iadd, 1) := by decide +kernel
theorem dX7_feed_66 : decode cX7_feed 66 = .ok (.putfield 205, 3) := by decide +kernel
theorem dX7_feed_69 : decode cX7_feed 69 = .ok (.iinc 3 (-1), 3) := by decide +kernel
theorem dX7_feed_72 : decode cX7_feed 72 = .ok (.goto (-33), 3) := by decide +kernel
theorem dX7_feed_75 : decode cX7_feed 75 = .ok (.aload_n 0, 1) := by decide +kernel
theorem dX7_feed_76 : decode cX7_feed 76 = .ok (.getfield 205, 3) := by decide +kernel
theorem dX7_feed_79 : decode cX7_feed 79 = .ok (.ireturn, 1) := by decide +kernel
theorem dX7_wipe_0 : decode cX7_wipe 0 = .ok (.aload_n 0, 1) := by decide +kernel
theorem dX7_wipe_1 : decode cX7_wipe 1 = .ok (.getfield 205, 3) := by decide +kernel
theorem dX7_wipe_4 : decode cX7_wipe 4 = .ok (.istore_n 1, 1) := by decide +kernel
theorem dX7_wipe_5 : decode cX7_wipe 5 = .ok (.aload_n 0, 1) := by decide +kernel
theorem dX7_wipe_6 : decode cX7_wipe 6 = .ok (.iconst 0, 1) := by decide +kernel
theorem dX7_wipe_7 : decode cX7_wipe 7 = .ok (.putfield 205, 3) := by decide +kernel
theorem dX7_wipe_10 : decode cX7_wipe 10 = .ok (.iload_n 1, 1) := by decide +kernel
theorem dX7_wipe_11 : decode cX7_wipe 11 = .ok (.ireturn, 1) := by decide +kernel
theorem dX7_letter_0 : decode cX7_letter 0 = .ok (.iload_n 0, 1) := by decide +kernel
theorem dX7_letter_1 : decode cX7_letter 1 = .ok (.bipush 97, 2) := by decide +kernel
theorem dX7_letter_3 : decode cX7_letter 3 = .ok (.if_icmp .lt 18, 3) := by decide +kernel
theorem dX7_letter_6 : decode cX7_letter 6 = .ok (.iload_n 0, 1) := by decide +kernel
theorem dX7_letter_7 : decode cX7_letter 7 = .ok (.bipush 122, 2) := by decide +kernel
theorem dX7_letter_9 : decode cX7_letter 9 = .ok (.if_icmp .gt 12, 3) := by decide +kernel
theorem dX7_letter_12 : decode cX7_letter 12 = .ok (.iload_n 0, 1) := by decide +kernel
theorem dX7_letter_13 : decode cX7_letter 13 = .ok (.bipush 97, 2) := by decide +kernel
theorem dX7_letter_15 : decode cX7_letter 15 = .ok (.isub, 1) := by decide +kernel
theorem dX7_letter_16 : decode cX7_letter 16 = .ok (.iconst 1, 1) := by decide +kernel
theorem dX7_letter_17 : decode cX7_letter 17 = .ok (.iadd, 1) := by decide +kernel
theorem dX7_letter_18 : decode cX7_letter 18 = .ok (.goto 4, 3) := by decide +kernel
theorem dX7_letter_21 : decode cX7_letter 21 = .ok (.iconst 0, 1) := by decide +kernel
theorem dX7_letter_22 : decode cX7_letter 22 = .ok (.ireturn, 1) := by decide +kernel
theorem dX7_isDigit_0 : decode cX7_isDigit 0 = .ok (.iload_n 0, 1) := by decide +kernel
theorem dX7_isDigit_1 : decode cX7_isDigit 1 = .ok (.bipush 48, 2) := by decide +kernel
theorem dX7_isDigit_3 : decode cX7_isDigit 3 = .ok (.if_icmp .lt 13, 3) := by decide +kernel
theorem dX7_isDigit_6 : decode cX7_isDigit 6 = .ok (.iload_n 0, 1) := by decide +kernel
theorem dX7_isDigit_7 : decode cX7_isDigit 7 = .ok (.bipush 57, 2) := by decide +kernel
theorem dX7_isDigit_9 : decode cX7_isDigit 9 = .ok (.if_icmp .gt 7, 3) := by decide +kernel
theorem dX7_isDigit_12 : decode cX7_isDigit 12 = .ok (.iconst 1, 1) := by decide +kernel
theorem dX7_isDigit_13 : decode cX7_isDigit 13 = .ok (.goto 4, 3) := by decide +kernel
theorem dX7_isDigit_16 : decode cX7_isDigit 16 = .ok (.iconst 0, 1) := by decide +kernel
theorem dX7_isDigit_17 : decode cX7_isDigit 17 = .ok (.ireturn, 1) := by decide +kernel
theorem dX7_byteAt_0 : decode cX7_byteAt 0 = .ok (.iload_n 1, 1) := by decide +kernel
theorem dX7_byteAt_1 : decode cX7_byteAt 1 = .ok (.aload_n 0, 1) := by decide +kernel
theorem dX7_byteAt_2 : decode cX7_byteAt 2 = .ok (.getfield 205, 3) := by decide +kernel
theorem dX7_byteAt_5 : decode cX7_byteAt 5 = .ok (.if_icmp .ge 12, 3) := by decide +kernel
theorem dX7_byteAt_8 : decode cX7_byteAt 8 = .ok (.aload_n 0, 1) := by decide +kernel
theorem dX7_byteAt_9 : decode cX7_byteAt 9 = .ok (.getfield 25, 3) := by decide +kernel
theorem dX7_byteAt_12 : decode cX7_byteAt 12 = .ok (.iload_n 1, 1) := by decide +kernel
theorem dX7_byteAt_13 : decode cX7_byteAt 13 = .ok (.baload, 1) := by decide +kernel
theorem dX7_byteAt_14 : decode cX7_byteAt 14 = .ok (.goto 4, 3) := by decide +kernel
theorem dX7_byteAt_17 : decode cX7_byteAt 17 = .ok (.iconst (-1), 1) := by decide +kernel
theorem dX7_byteAt_18 : decode cX7_byteAt 18 = .ok (.ireturn, 1) := by decide +kernel
theorem dX7_next_0 : decode cX7_next 0 = .ok (.aload_n 0, 1) := by decide +kernel
theorem dX7_next_1 : decode cX7_next 1 = .ok (.aload_n 0, 1) := by decide +kernel
theorem dX7_next_2 : decode cX7_next 2 = .ok (.getfield 208, 3) := by decide +kernel
theorem dX7_next_5 : decode cX7_next 5 = .ok (.invokevirtual 211, 3) := by decide +kernel
theorem dX7_next_8 : decode cX7_next 8 = .ok (.bipush 32, 2) := by decide +kernel
theorem dX7_next_10 : decode cX7_next 10 = .ok (.if_icmp .ne 16, 3) := by decide +kernel
theorem dX7_next_13 : decode cX7_next 13 = .ok (.aload_n 0, 1) := by decide +kernel
theorem dX7_next_14 : decode cX7_next 14 = .ok (.dup, 1) := by decide +kernel
theorem dX7_next_15 : decode cX7_next 15 = .ok (.getfield 208, 3) := by decide +kernel
theorem dX7_next_18 : decode cX7_next 18 = .ok (.iconst 1, 1) := by decide +kernel
theorem dX7_next_19 : decode cX7_next 19 = .ok (.iadd, 1) := by decide +kernel
theorem dX7_next_20 : decode cX7_next 20 = .ok (.putfield 208, 3) := by decide +kernel
theorem dX7_next_23 : decode cX7_next 23 = .ok (.goto (-23), 3) := by decide +kernel
theorem dX7_next_26 : decode cX7_next 26 = .ok (.aload_n 0, 1) := by decide +kernel
theorem dX7_next_27 : decode cX7_next 27 = .ok (.aload_n 0, 1) := by decide +kernel
theorem dX7_next_28 : decode cX7_next 28 = .ok (.getfield 208, 3) := by decide +kernel
theorem dX7_next_31 : decode cX7_next 31 = .ok (.putfield 214, 3) := by decide +kernel
theorem dX7_next_34 : decode cX7_next 34 = .ok (.aload_n 0, 1) := by decide +kernel
theorem dX7_next_35 : decode cX7_next 35 = .ok (.lconst 0, 1) := by decide +kernel
theorem dX7_next_36 : decode cX7_next 36 = .ok (.putfield 217, 3) := by decide +kernel
theorem dX7_next_39 : decode cX7_next 39 = .ok (.aload_n 0, 1) := by decide +kernel
theorem dX7_next_40 : decode cX7_next 40 = .ok (.aload_n 0, 1) := by decide +kernel
theorem dX7_next_41 : decode cX7_next 41 = .ok (.getfield 208, 3) := by decide +kernel
theorem dX7_next_44 : decode cX7_next 44 = .ok (.invokevirtual 211, 3) := by decide +kernel
theorem dX7_next_47 : decode cX7_next 47 = .ok (.istore_n 1, 1) := by decide +kernel
theorem dX7_next_48 : decode cX7_next 48 = .ok (.aload_n 0, 1) := by decide +kernel
theorem dX7_next_49 : decode cX7_next 49 = .ok (.getfield 208, 3) := by decide +kernel
theorem dX7_next_52 : decode cX7_next 52 = .ok (.aload_n 0, 1) := by decide +kernel
theorem dX7_next_53 : decode cX7_next 53 = .ok (.getfield 205, 3) := by decide +kernel
theorem dX7_next_56 : decode cX7_next 56 = .ok (.if_icmp .ne 11, 3) := by decide +kernel
theorem dX7_next_59 : decode cX7_next 59 = .ok (.aload_n 0, 1) := by decide +kernel
theorem dX7_next_60 : decode cX7_next 60 = .ok (.iconst 0, 1) := by decide +kernel
theorem dX7_next_61 : decode cX7_next 61 = .ok (.putfield 221, 3) := by decide +kernel
theorem dX7_next_64 : decode cX7_next 64 = .ok (.goto 197, 3) := by decide +kernel
theorem dX7_next_67 : decode cX7_next 67 = .ok (.iload_n 1, 1) := by decide +kernel
theorem dX7_next_68 : decode cX7_next 68 = .ok (.bipush 59, 2) := by decide +kernel
theorem dX7_next_70 : decode cX7_next 70 = .ok (.if_icmp .ne 21, 3) := by decide +kernel
theorem dX7_next_73 : decode cX7_next 73 = .ok (.aload_n 0, 1) := by decide +kernel
theorem dX7_next_74 : decode cX7_next 74 = .ok (.iconst 3, 1) := by decide +kernel
theorem dX7_next_75 : decode cX7_next 75 = .ok (.putfield 221, 3) := by decide +kernel
theorem dX7_next_78 : decode cX7_next 78 = .ok (.aload_n 0, 1) := by decide +kernel
theorem dX7_next_79 : decode cX7_next 79 = .ok (.dup, 1) := by decide +kernel
theorem dX7_next_80 : decode cX7_next 80 = .ok (.getfield 208, 3) := by decide +kernel
theorem dX7_next_83 : decode cX7_next 83 = .ok (.iconst 1, 1) := by decide +kernel
theorem dX7_next_84 : decode cX7_next 84 = .ok (.iadd, 1) := by decide +kernel
theorem dX7_next_85 : decode cX7_next 85 = .ok (.putfield 208, 3) := by decide +kernel
theorem dX7_next_88 : decode cX7_next 88 = .ok (.goto 173, 3) := by decide +kernel
theorem dX7_next_91 : decode cX7_next 91 = .ok (.iload_n 1, 1) := by decide +kernel
theorem dX7_next_92 : decode cX7_next 92 = .ok (.invokestatic 224, 3) := by decide +kernel
theorem dX7_next_95 : decode cX7_next 95 = .ok (.ifCond .le 78, 3) := by decide +kernel
theorem dX7_next_98 : decode cX7_next 98 = .ok (.aload_n 0, 1) := by decide +kernel
theorem dX7_next_99 : decode cX7_next 99 = .ok (.iconst 1, 1) := by decide +kernel
theorem dX7_next_100 : decode cX7_next 100 = .ok (.putfield 221, 3) := by decide +kernel
theorem dX7_next_103 : decode cX7_next 103 = .ok (.aload_n 0, 1) := by decide +kernel
theorem dX7_next_104 : decode cX7_next 104 = .ok (.aload_n 0, 1) := by decide +kernel
theorem dX7_next_105 : decode cX7_next 105 = .ok (.getfield 208, 3) := by decide +kernel
theorem dX7_next_108 : decode cX7_next 108 = .ok (.invokevirtual 211, 3) := by decide +kernel
theorem dX7_next_111 : decode cX7_next 111 = .ok (.invokestatic 224, 3) := by decide +kernel
theorem dX7_next_114 : decode cX7_next 114 = .ok (.ifCond .le 147, 3) := by decide +kernel
theorem dX7_next_117 : decode cX7_next 117 = .ok (.aload_n 0, 1) := by decide +kernel
theorem dX7_next_118 : decode cX7_next 118 = .ok (.aload_n 0, 1) := by decide +kernel
theorem dX7_next_119 : decode cX7_next 119 = .ok (.getfield 217, 3) := by decide +kernel
theorem dX7_next_122 : decode cX7_next 122 = .ok (.ldc2_w 227, 3) := by decide +kernel
theorem dX7_next_125 : decode cX7_next 125 = .ok (.lcmp, 1) := by decide +kernel
theorem dX7_next_126 : decode cX7_next 126 = .ok (.ifCond .le 10, 3) := by decide +kernel
theorem dX7_next_129 : decode cX7_next 129 = .ok (.aload_n 0, 1) := by decide +kernel
theorem dX7_next_130 : decode cX7_next 130 = .ok (.getfield 217, 3) := by decide +kernel
theorem dX7_next_133 : decode cX7_next 133 = .ok (.goto 24, 3) := by decide +kernel
theorem dX7_next_136 : decode cX7_next 136 = .ok (.aload_n 0, 1) := by decide +kernel
theorem dX7_next_137 : decode cX7_next 137 = .ok (.getfield 217, 3) := by decide +kernel
theorem dX7_next_140 : decode cX7_next 140 = .ok (.ldc2_w 229, 3) := by decide +kernel
theorem dX7_next_143 : decode cX7_next 143 = .ok (.lmul, 1) := by decide +kernel
theorem dX7_next_144 : decode cX7_next 144 = .ok (.aload_n 0, 1) := by decide +kernel
theorem dX7_next_145 : decode cX7_next 145 = .ok (.aload_n 0, 1) := by decide +kernel
theorem dX7_next_146 : decode cX7_next 146 = .ok (.getfield 208, 3) := by decide +kernel
theorem dX7_next_149 : decode cX7_next 149 = .ok (.invokevirtual 211, 3) := by decide +kernel
theorem dX7_next_152 : decode cX7_next 152 = .ok (.invokestatic 224, 3) := by decide +kernel
theorem dX7_next_155 : decode cX7_next 155 = .ok (.i2l, 1) := by decide +kernel
theorem dX7_next_156 : decode cX7_next 156 = .ok (.ladd, 1) := by decide +kernel
theorem dX7_next_157 : decode cX7_next 157 = .ok (.putfield 217, 3) := by decide +kernel
theorem dX7_next_160 : decode cX7_next 160 = .ok (.aload_n 0, 1) := by decide +kernel
theorem dX7_next_161 : decode cX7_next 161 = .ok (.dup, 1) := by decide +kernel
theorem dX7_next_162 : decode cX7_next 162 = .ok (.getfield 208, 3) := by decide +kernel
theorem dX7_next_165 : decode cX7_next 165 = .ok (.iconst 1, 1) := by decide +kernel
theorem dX7_next_166 : decode cX7_next 166 = .ok (.iadd, 1) := by decide +kernel
theorem dX7_next_167 : decode cX7_next 167 = .ok (.putfield 208, 3) := by decide +kernel
theorem dX7_next_170 : decode cX7_next 170 = .ok (.goto (-67), 3) := by decide +kernel
theorem dX7_next_173 : decode cX7_next 173 = .ok (.iload_n 1, 1) := by decide +kernel
theorem dX7_next_174 : decode cX7_next 174 = .ok (.invokestatic 231, 3) := by decide +kernel
theorem dX7_next_177 : decode cX7_next 177 = .ok (.ifCond .eq 79, 3) := by decide +kernel
theorem dX7_next_180 : decode cX7_next 180 = .ok (.aload_n 0, 1) := by decide +kernel
theorem dX7_next_181 : decode cX7_next 181 = .ok (.iconst 2, 1) := by decide +kernel
theorem dX7_next_182 : decode cX7_next 182 = .ok (.putfield 221, 3) := by decide +kernel
theorem dX7_next_185 : decode cX7_next 185 = .ok (.aload_n 0, 1) := by decide +kernel
theorem dX7_next_186 : decode cX7_next 186 = .ok (.aload_n 0, 1) := by decide +kernel
theorem dX7_next_187 : decode cX7_next 187 = .ok (.getfield 208, 3) := by decide +kernel
theorem dX7_next_190 : decode cX7_next 190 = .ok (.invokevirtual 211, 3) := by decide +kernel
theorem dX7_next_193 : decode cX7_next 193 = .ok (.invokestatic 231, 3) := by decide +kernel
theorem dX7_next_196 : decode cX7_next 196 = .ok (.ifCond .eq 65, 3) := by decide +kernel
theorem dX7_next_199 : decode cX7_next 199 = .ok (.aload_n 0, 1) := by decide +kernel
theorem dX7_next_200 : decode cX7_next 200 = .ok (.aload_n 0, 1) := by decide +kernel
theorem dX7_next_201 : decode cX7_next 201 = .ok (.getfield 217, 3) := by decide +kernel
theorem dX7_next_204 : decode cX7_next 204 = .ok (.ldc2_w 234, 3) := by decide +kernel
theorem dX7_next_207 : decode cX7_next 207 = .ok (.lcmp, 1) := by decide +kernel
theorem dX7_next_208 : decode cX7_next 208 = .ok (.ifCond .le 10, 3) := by decide +kernel
theorem dX7_next_211 : decode cX7_next 211 = .ok (.aload_n 0, 1) := by decide +kernel
theorem dX7_next_212 : decode cX7_next 212 = .ok (.getfield 217, 3) := by decide +kernel
theorem dX7_next_215 : decode cX7_next 215 = .ok (.goto 25, 3) := by decide +kernel
theorem dX7_next_218 : decode cX7_next 218 = .ok (.aload_n 0, 1) := by decide +kernel
theorem dX7_next_219 : decode cX7_next 219 = .ok (.getfield 217, 3) := by decide +kernel
theorem dX7_next_222 : decode cX7_next 222 = .ok (.ldc2_w 141, 3) := by decide +kernel
theorem dX7_next_225 : decode cX7_next 225 = .ok (.lmul, 1) := by decide +kernel
theorem dX7_next_226 : decode cX7_next 226 = .ok (.aload_n 0, 1) := by decide +kernel
theorem dX7_next_227 : decode cX7_next 227 = .ok (.aload_n 0, 1) := by decide +kernel
theorem dX7_next_228 : decode cX7_next 228 = .ok (.getfield 208, 3) := by decide +kernel
theorem dX7_next_231 : decode cX7_next 231 = .ok (.invokevirtual 211, 3) := by decide +kernel
theorem dX7_next_234 : decode cX7_next 234 = .ok (.i2l, 1) := by decide +kernel
theorem dX7_next_235 : decode cX7_next 235 = .ok (.ladd, 1) := by decide +kernel
theorem dX7_next_236 : decode cX7_next 236 = .ok (.ldc2_w 236, 3) := by decide +kernel
theorem dX7_next_239 : decode cX7_next 239 = .ok (.lsub, 1) := by decide +kernel
theorem dX7_next_240 : decode cX7_next 240 = .ok (.putfield 217, 3) := by decide +kernel
theorem dX7_next_243 : decode cX7_next 243 = .ok (.aload_n 0, 1) := by decide +kernel
theorem dX7_next_244 : decode cX7_next 244 = .ok (.dup, 1) := by decide +kernel
theorem dX7_next_245 : decode cX7_next 245 = .ok (.getfield 208, 3) := by decide +kernel
theorem dX7_next_248 : decode cX7_next 248 = .ok (.iconst 1, 1) := by decide +kernel
theorem dX7_next_249 : decode cX7_next 249 = .ok (.iadd, 1) := by decide +kernel
theorem dX7_next_250 : decode cX7_next 250 = .ok (.putfield 208, 3) := by decide +kernel
theorem dX7_next_253 : decode cX7_next 253 = .ok (.goto (-68), 3) := by decide +kernel
theorem dX7_next_256 : decode cX7_next 256 = .ok (.aload_n 0, 1) := by decide +kernel
theorem dX7_next_257 : decode cX7_next 257 = .ok (.iconst 4, 1) := by decide +kernel
theorem dX7_next_258 : decode cX7_next 258 = .ok (.putfield 221, 3) := by decide +kernel
theorem dX7_next_261 : decode cX7_next 261 = .ok (.return_, 1) := by decide +kernel
theorem dX7_wrongHere_0 : decode cX7_wrongHere 0 = .ok (.aload_n 0, 1) := by decide +kernel
theorem dX7_wrongHere_1 : decode cX7_wrongHere 1 = .ok (.aload_n 0, 1) := by decide +kernel
theorem dX7_wrongHere_2 : decode cX7_wrongHere 2 = .ok (.getfield 238, 3) := by decide +kernel
theorem dX7_wrongHere_5 : decode cX7_wrongHere 5 = .ok (.ifCond .ge 10, 3) := by decide +kernel
theorem dX7_wrongHere_8 : decode cX7_wrongHere 8 = .ok (.aload_n 0, 1) := by decide +kernel
theorem dX7_wrongHere_9 : decode cX7_wrongHere 9 = .ok (.getfield 214, 3) := by decide +kernel
theorem dX7_wrongHere_12 : decode cX7_wrongHere 12 = .ok (.goto 7, 3) := by decide +kernel
theorem dX7_wrongHere_15 : decode cX7_wrongHere 15 = .ok (.aload_n 0, 1) := by decide +kernel
theorem dX7_wrongHere_16 : decode cX7_wrongHere 16 = .ok (.getfield 238, 3) := by decide +kernel
theorem dX7_wrongHere_19 : decode cX7_wrongHere 19 = .ok (.putfield 238, 3) := by decide +kernel
theorem dX7_wrongHere_22 : decode cX7_wrongHere 22 = .ok (.return_, 1) := by decide +kernel
theorem dX7_isWord_0 : decode cX7_isWord 0 = .ok (.aload_n 0, 1) := by decide +kernel
theorem dX7_isWord_1 : decode cX7_isWord 1 = .ok (.getfield 221, 3) := by decide +kernel
theorem dX7_isWord_4 : decode cX7_isWord 4 = .ok (.iconst 1, 1) := by decide +kernel
theorem dX7_isWord_5 : decode cX7_isWord 5 = .ok (.if_icmp .ne 16, 3) := by decide +kernel
theorem dX7_isWord_8 : decode cX7_isWord 8 = .ok (.aload_n 0, 1) := by decide +kernel
theorem dX7_isWord_9 : decode cX7_isWord 9 = .ok (.getfield 217, 3) := by decide +kernel
theorem dX7_isWord_12 : decode cX7_isWord 12 = .ok (.lload_n 1, 1) := by decide +kernel
theorem dX7_isWord_13 : decode cX7_isWord 13 = .ok (.lcmp, 1) := by decide +kernel
theorem dX7_isWord_14 : decode cX7_isWord 14 = .ok (.ifCond .ne 7, 3) := by decide +kernel
theorem dX7_isWord_17 : decode cX7_isWord 17 = .ok (.iconst 1, 1) := by decide +kernel
theorem dX7_isWord_18 : decode cX7_isWord 18 = .ok (.goto 4, 3) := by decide +kernel
theorem dX7_isWord_21 : decode cX7_isWord 21 = .ok (.iconst 0, 1) := by decide +kernel
theorem dX7_isWord_22 : decode cX7_isWord 22 = .ok (.ireturn, 1) := by decide +kernel
theorem dX7_kindHere_0 : decode cX7_kindHere 0 = .ok (.aload_n 0, 1) := by decide +kernel
theorem dX7_kindHere_1 : decode cX7_kindHere 1 = .ok (.ldc2_w 241, 3) := by decide +kernel
theorem dX7_kindHere_4 : decode cX7_kindHere 4 = .ok (.invokevirtual 243, 3) := by decide +kernel
theorem dX7_kindHere_7 : decode cX7_kindHere 7 = .ok (.ifCond .eq 7, 3) := by decide +kernel
theorem dX7_kindHere_10 : decode cX7_kindHere 10 = .ok (.iconst 0, 1) := by decide +kernel
theorem dX7_kindHere_11 : decode cX7_kindHere 11 = .ok (.goto 89, 3) := by decide +kernel
theorem dX7_kindHere_14 : decode cX7_kindHere 14 = .ok (.aload_n 0, 1) := by decide +kernel
theorem dX7_kindHere_15 : decode cX7_kindHere 15 = .ok (.ldc2_w 247, 3) := by decide +kernel
theorem dX7_kindHere_18 : decode cX7_kindHere 18 = .ok (.invokevirtual 243, 3) := by decide +kernel
theorem dX7_kindHere_21 : decode cX7_kindHere 21 = .ok (.ifCond .eq 7, 3) := by decide +kernel
theorem dX7_kindHere_24 : decode cX7_kindHere 24 = .ok (.iconst 1, 1) := by decide +kernel
theorem dX7_kindHere_25 : decode cX7_kindHere 25 = .ok (.goto 75, 3) := by decide +kernel
theorem dX7_kindHere_28 : decode cX7_kindHere 28 = .ok (.aload_n 0, 1) := by decide +kernel
theorem dX7_kindHere_29 : decode cX7_kindHere 29 = .ok (.ldc2_w 249, 3) := by decide +kernel
theorem dX7_kindHere_32 : decode cX7_kindHere 32 = .ok (.invokevirtual 243, 3) := by decide +kernel
theorem dX7_kindHere_35 : decode cX7_kindHere 35 = .ok (.ifCond .eq 7, 3) := by decide +kernel
theorem dX7_kindHere_38 : decode cX7_kindHere 38 = .ok (.iconst 2, 1) := by decide +kernel
theorem dX7_kindHere_39 : decode cX7_kindHere 39 = .ok (.goto 61, 3) := by decide +kernel
theorem dX7_kindHere_42 : decode cX7_kindHere 42 = .ok (.aload_n 0, 1) := by decide +kernel
theorem dX7_kindHere_43 : decode cX7_kindHere 43 = .ok (.ldc2_w 251, 3) := by decide +kernel
theorem dX7_kindHere_46 : decode cX7_kindHere 46 = .ok (.invokevirtual 243, 3) := by decide +kernel
theorem dX7_kindHere_49 : decode cX7_kindHere 49 = .ok (.ifCond .eq 7, 3) := by decide +kernel
theorem dX7_kindHere_52 : decode cX7_kindHere 52 = .ok (.iconst 3, 1) := by decide +kernel
theorem dX7_kindHere_53 : decode cX7_kindHere 53 = .ok (.goto 47, 3) := by decide +kernel
theorem dX7_kindHere_56 : decode cX7_kindHere 56 = .ok (.aload_n 0, 1) := by decide +kernel
theorem dX7_kindHere_57 : decode cX7_kindHere 57 = .ok (.ldc2_w 253, 3) := by decide +kernel
theorem dX7_kindHere_60 : decode cX7_kindHere 60 = .ok (.invokevirtual 243, 3) := by decide +kernel
theorem dX7_kindHere_63 : decode cX7_kindHere 63 = .ok (.ifCond .eq 7, 3) := by decide +kernel
theorem dX7_kindHere_66 : decode cX7_kindHere 66 = .ok (.iconst 4, 1) := by decide +kernel
theorem dX7_kindHere_67 : decode cX7_kindHere 67 = .ok (.goto 33, 3) := by decide +kernel
theorem dX7_kindHere_70 : decode cX7_kindHere 70 = .ok (.aload_n 0, 1) := by decide +kernel
theorem dX7_kindHere_71 : decode cX7_kindHere 71 = .ok (.ldc2_w 255, 3) := by decide +kernel
theorem dX7_kindHere_74 : decode cX7_kindHere 74 = .ok (.invokevirtual 243, 3) := by decide +kernel
theorem dX7_kindHere_77 : decode cX7_kindHere 77 = .ok (.ifCond .eq 7, 3) := by decide +kernel
theorem dX7_kindHere_80 : decode cX7_kindHere 80 = .ok (.iconst 5, 1) := by decide +kernel
theorem dX7_kindHere_81 : decode cX7_kindHere 81 = .ok (.goto 19, 3) := by decide +kernel
theorem dX7_kindHere_84 : decode cX7_kindHere 84 = .ok (.aload_n 0, 1) := by decide +kernel
theorem dX7_kindHere_85 : decode cX7_kindHere 85 = .ok (.ldc2_w 257, 3) := by decide +kernel
theorem dX7_kindHere_88 : decode cX7_kindHere 88 = .ok (.invokevirtual 243, 3) := by decide +kernel
theorem dX7_kindHere_91 : decode cX7_kindHere 91 = .ok (.ifCond .eq 8, 3) := by decide +kernel
theorem dX7_kindHere_94 : decode cX7_kindHere 94 = .ok (.bipush 6, 2) := by decide +kernel
theorem dX7_kindHere_96 : decode cX7_kindHere 96 = .ok (.goto 4, 3) := by decide +kernel
theorem dX7_kindHere_99 : decode cX7_kindHere 99 = .ok (.iconst (-1), 1) := by decide +kernel
theorem dX7_kindHere_100 : decode cX7_kindHere 100 = .ok (.ireturn, 1) := by decide +kernel
theorem dX7_numberHere_0 : decode cX7_numberHere 0 = .ok (.aload_n 0, 1) := by decide +kernel
theorem dX7_numberHere_1 : decode cX7_numberHere 1 = .ok (.getfield 217, 3) := by decide +kernel
theorem dX7_numberHere_4 : decode cX7_numberHere 4 = .ok (.l2i, 1) := by decide +kernel
theorem dX7_numberHere_5 : decode cX7_numberHere 5 = .ok (.istore_n 2, 1) := by decide +kernel
theorem dX7_numberHere_6 : decode cX7_numberHere 6 = .ok (.aload_n 0, 1) := by decide +kernel
theorem dX7_numberHere_7 : decode cX7_numberHere 7 = .ok (.getfield 221, 3) := by decide +kernel
theorem dX7_numberHere_10 : decode cX7_numberHere 10 = .ok (.iconst 2, 1) := by decide +kernel
theorem dX7_numberHere_11 : decode cX7_numberHere 11 = .ok (.if_icmp .ne 13, 3) := by decide +kernel
theorem dX7_numberHere_14 : decode cX7_numberHere 14 = .ok (.aload_n 0, 1) := by decide +kernel
theorem dX7_numberHere_15 : decode cX7_numberHere 15 = .ok (.getfield 217, 3) := by decide +kernel
theorem dX7_numberHere_18 : decode cX7_numberHere 18 = .ok (.iload_n 1, 1) := by decide +kernel
theorem dX7_numberHere_19 : decode cX7_numberHere 19 = .ok (.i2l, 1) := by decide +kernel
theorem dX7_numberHere_20 : decode cX7_numberHere 20 = .ok (.lcmp, 1) := by decide +kernel
theorem dX7_numberHere_21 : decode cX7_numberHere 21 = .ok (.ifCond .le 9, 3) := by decide +kernel
theorem dX7_numberHere_24 : decode cX7_numberHere 24 = .ok (.aload_n 0, 1) := by decide +kernel
theorem dX7_numberHere_25 : decode cX7_numberHere 25 = .ok (.invokevirtual 259, 3) := by decide +kernel
theorem dX7_numberHere_28 : decode cX7_numberHere 28 = .ok (.iconst 0, 1) := by decide +kernel
theorem dX7_numberHere_29 : decode cX7_numberHere 29 = .ok (.ireturn, 1) := by decide +kernel
theorem dX7_numberHere_30 : decode cX7_numberHere 30 = .ok (.aload_n 0, 1) := by decide +kernel
theorem dX7_numberHere_31 : decode cX7_numberHere 31 = .ok (.invokevirtual 262, 3) := by decide +kernel
theorem dX7_numberHere_34 : decode cX7_numberHere 34 = .ok (.iload_n 2, 1) := by decide +kernel
theorem dX7_numberHere_35 : decode cX7_numberHere 35 = .ok (.ireturn, 1) := by decide +kernel
theorem dX7_perhaps_0 : decode cX7_perhaps 0 = .ok (.aload_n 0, 1) := by decide +kernel
theorem dX7_perhaps_1 : decode cX7_perhaps 1 = .ok (.getfield 238, 3) := by decide +kernel
theorem dX7_perhaps_4 : decode cX7_perhaps 4 = .ok (.ifCond .ge 42, 3) := by decide +kernel
theorem dX7_perhaps_7 : decode cX7_perhaps 7 = .ok (.aload_n 0, 1) := by decide +kernel
theorem dX7_perhaps_8 : decode cX7_perhaps 8 = .ok (.lload_n 1, 1) := by decide +kernel
theorem dX7_perhaps_9 : decode cX7_perhaps 9 = .ok (.invokevirtual 243, 3) := by decide +kernel
theorem dX7_perhaps_12 : decode cX7_perhaps 12 = .ok (.ifCond .eq 34, 3) := by decide +kernel
theorem dX7_perhaps_15 : decode cX7_perhaps 15 = .ok (.aload_n 0, 1) := by decide +kernel
theorem dX7_perhaps_16 : decode cX7_perhaps 16 = .ok (.invokevirtual 262, 3) := by decide +kernel
theorem dX7_perhaps_19 : decode cX7_perhaps 19 = .ok (.aload_n 0, 1) := by decide +kernel
theorem dX7_perhaps_20 : decode cX7_perhaps 20 = .ok (.iload 4, 2) := by decide +kernel
theorem dX7_perhaps_22 : decode cX7_perhaps 22 = .ok (.invokestatic 144, 3) := by decide +kernel
theorem dX7_perhaps_25 : decode cX7_perhaps 25 = .ok (.invokevirtual 265, 3) := by decide +kernel
theorem dX7_perhaps_28 : decode cX7_perhaps 28 = .ok (.istore 5, 2) := by decide +kernel
theorem dX7_perhaps_30 : decode cX7_perhaps 30 = .ok (.aload_n 0, 1) := by decide +kernel
theorem dX7_perhaps_31 : decode cX7_perhaps 31 = .ok (.getfield 238, 3) := by decide +kernel
theorem dX7_perhaps_34 : decode cX7_perhaps 34 = .ok (.ifCond .ge 12, 3) := by decide +kernel
theorem dX7_perhaps_37 : decode cX7_perhaps 37 = .ok (.aload_n 0, 1) := by decide +kernel
theorem dX7_perhaps_38 : decode cX7_perhaps 38 = .ok (.iload_n 3, 1) := by decide +kernel
theorem dX7_perhaps_39 : decode cX7_perhaps 39 = .ok (.iload 4, 2) := by decide +kernel
theorem dX7_perhaps_41 : decode cX7_perhaps 41 = .ok (.iload 5, 2) := by decide +kernel
theorem dX7_perhaps_43 : decode cX7_perhaps 43 = .ok (.invokevirtual 90, 3) := by decide +kernel
theorem dX7_perhaps_46 : decode cX7_perhaps 46 = .ok (.return_, 1) := by decide +kernel
theorem dX7_gloveHere_0 : decode cX7_gloveHere 0 = .ok (.aload_n 0, 1) := by decide +kernel
theorem dX7_gloveHere_1 : decode cX7_gloveHere 1 = .ok (.getfield 7, 3) := by decide +kernel
theorem dX7_gloveHere_4 : decode cX7_gloveHere 4 = .ok (.iconst 0, 1) := by decide +kernel
theorem dX7_gloveHere_5 : decode cX7_gloveHere 5 = .ok (.iaload, 1) := by decide +kernel
theorem dX7_gloveHere_6 : decode cX7_gloveHere 6 = .ok (.bipush 8, 2) := by decide +kernel
theorem dX7_gloveHere_8 : decode cX7_gloveHere 8 = .ok (.if_icmp .ne 8, 3) := by decide +kernel
theorem dX7_gloveHere_11 : decode cX7_gloveHere 11 = .ok (.aload_n 0, 1) := by decide +kernel
theorem dX7_gloveHere_12 : decode cX7_gloveHere 12 = .ok (.invokevirtual 259, 3) := by decide +kernel
theorem dX7_gloveHere_15 : decode cX7_gloveHere 15 = .ok (.return_, 1) := by decide +kernel
theorem dX7_gloveHere_16 : decode cX7_gloveHere 16 = .ok (.aload_n 0, 1) := by decide +kernel
theorem dX7_gloveHere_17 : decode cX7_gloveHere 17 = .ok (.invokevirtual 262, 3) := by decide +kernel
theorem dX7_gloveHere_20 : decode cX7_gloveHere 20 = .ok (.aload_n 0, 1) := by decide +kernel
theorem dX7_gloveHere_21 : decode cX7_gloveHere 21 = .ok (.iload_n 1, 1) := by decide +kernel
theorem dX7_gloveHere_22 : decode cX7_gloveHere 22 = .ok (.iconst 0, 1) := by decide +kernel
theorem dX7_gloveHere_23 : decode cX7_gloveHere 23 = .ok (.invokevirtual 135, 3) := by decide +kernel
theorem dX7_gloveHere_26 : decode cX7_gloveHere 26 = .ok (.istore_n 2, 1) := by decide +kernel
theorem dX7_gloveHere_27 : decode cX7_gloveHere 27 = .ok (.aload_n 0, 1) := by decide +kernel
theorem dX7_gloveHere_28 : decode cX7_gloveHere 28 = .ok (.ldc2_w 268, 3) := by decide +kernel
theorem dX7_gloveHere_31 : decode cX7_gloveHere 31 = .ok (.iload_n 2, 1) := by decide +kernel
theorem dX7_gloveHere_32 : decode cX7_gloveHere 32 = .ok (.iconst 1, 1) := by decide +kernel
theorem dX7_gloveHere_33 : decode cX7_gloveHere 33 = .ok (.invokevirtual 270, 3) := by decide +kernel
theorem dX7_gloveHere_36 : decode cX7_gloveHere 36 = .ok (.aload_n 0, 1) := by decide +kernel
theorem dX7_gloveHere_37 : decode cX7_gloveHere 37 = .ok (.ldc2_w 274, 3) := by decide +kernel
theorem dX7_gloveHere_40 : decode cX7_gloveHere 40 = .ok (.iload_n 2, 1) := by decide +kernel
theorem dX7_gloveHere_41 : decode cX7_gloveHere 41 = .ok (.iconst 2, 1) := by decide +kernel
theorem dX7_gloveHere_42 : decode cX7_gloveHere 42 = .ok (.invokevirtual 270, 3) := by decide +kernel
theorem dX7_gloveHere_45 : decode cX7_gloveHere 45 = .ok (.aload_n 0, 1) := by decide +kernel
theorem dX7_gloveHere_46 : decode cX7_gloveHere 46 = .ok (.ldc2_w 276, 3) := by decide +kernel
theorem dX7_gloveHere_49 : decode cX7_gloveHere 49 = .ok (.iload_n 2, 1) := by decide +kernel
theorem dX7_gloveHere_50 : decode cX7_gloveHere 50 = .ok (.iconst 3, 1) := by decide +kernel
theorem dX7_gloveHere_51 : decode cX7_gloveHere 51 = .ok (.invokevirtual 270, 3) := by decide +kernel
theorem dX7_gloveHere_54 : decode cX7_gloveHere 54 = .ok (.aload_n 0, 1) := by decide +kernel
theorem dX7_gloveHere_55 : decode cX7_gloveHere 55 = .ok (.ldc2_w 278, 3) := by decide +kernel
theorem dX7_gloveHere_58 : decode cX7_gloveHere 58 = .ok (.iload_n 2, 1) := by decide +kernel
theorem dX7_gloveHere_59 : decode cX7_gloveHere 59 = .ok (.iconst 4, 1) := by decide +kernel
theorem dX7_gloveHere_60 : decode cX7_gloveHere 60 = .ok (.invokevirtual 270, 3) := by decide +kernel
theorem dX7_gloveHere_63 : decode cX7_gloveHere 63 = .ok (.return_, 1) := by decide +kernel
theorem dX7_saidHere_0 : decode cX7_saidHere 0 = .ok (.aload_n 0, 1) := by decide +kernel
theorem dX7_saidHere_1 : decode cX7_saidHere 1 = .ok (.invokevirtual 262, 3) := by decide +kernel
theorem dX7_saidHere_4 : decode cX7_saidHere 4 = .ok (.aload_n 0, 1) := by decide +kernel
theorem dX7_saidHere_5 : decode cX7_saidHere 5 = .ok (.iconst 5, 1) := by decide +kernel
theorem dX7_saidHere_6 : decode cX7_saidHere 6 = .ok (.invokevirtual 265, 3) := by decide +kernel
theorem dX7_saidHere_9 : decode cX7_saidHere 9 = .ok (.istore_n 1, 1) := by decide +kernel
theorem dX7_saidHere_10 : decode cX7_saidHere 10 = .ok (.aload_n 0, 1) := by decide +kernel
theorem dX7_saidHere_11 : decode cX7_saidHere 11 = .ok (.getfield 238, 3) := by decide +kernel
theorem dX7_saidHere_14 : decode cX7_saidHere 14 = .ok (.ifCond .ge 11, 3) := by decide +kernel
theorem dX7_saidHere_17 : decode cX7_saidHere 17 = .ok (.aload_n 0, 1) := by decide +kernel
theorem dX7_saidHere_18 : decode cX7_saidHere 18 = .ok (.iconst 5, 1) := by decide +kernel
theorem dX7_saidHere_19 : decode cX7_saidHere 19 = .ok (.invokevirtual 265, 3) := by decide +kernel
theorem dX7_saidHere_22 : decode cX7_saidHere 22 = .ok (.goto 4, 3) := by decide +kernel
theorem dX7_saidHere_25 : decode cX7_saidHere 25 = .ok (.iconst 0, 1) := by decide +kernel
theorem dX7_saidHere_26 : decode cX7_saidHere 26 = .ok (.istore_n 2, 1) := by decide +kernel
theorem dX7_saidHere_27 : decode cX7_saidHere 27 = .ok (.aload_n 0, 1) := by decide +kernel
theorem dX7_saidHere_28 : decode cX7_saidHere 28 = .ok (.getfield 238, 3) := by decide +kernel
theorem dX7_saidHere_31 : decode cX7_saidHere 31 = .ok (.ifCond .ge 12, 3) := by decide +kernel
theorem dX7_saidHere_34 : decode cX7_saidHere 34 = .ok (.aload_n 0, 1) := by decide +kernel
theorem dX7_saidHere_35 : decode cX7_saidHere 35 = .ok (.bipush 15, 2) := by decide +kernel
theorem dX7_saidHere_37 : decode cX7_saidHere 37 = .ok (.invokevirtual 265, 3) := by decide +kernel
theorem dX7_saidHere_40 : decode cX7_saidHere 40 = .ok (.goto 4, 3) := by decide +kernel
theorem dX7_saidHere_43 : decode cX7_saidHere 43 = .ok (.iconst 0, 1) := by decide +kernel
theorem dX7_saidHere_44 : decode cX7_saidHere 44 = .ok (.istore_n 3, 1) := by decide +kernel
theorem dX7_saidHere_45 : decode cX7_saidHere 45 = .ok (.aload_n 0, 1) := by decide +kernel
theorem dX7_saidHere_46 : decode cX7_saidHere 46 = .ok (.getfield 238, 3) := by decide +kernel
theorem dX7_saidHere_49 : decode cX7_saidHere 49 = .ok (.ifCond .ge 12, 3) := by decide +kernel
theorem dX7_saidHere_52 : decode cX7_saidHere 52 = .ok (.aload_n 0, 1) := by decide +kernel
theorem dX7_saidHere_53 : decode cX7_saidHere 53 = .ok (.bipush 9, 2) := by decide +kernel
theorem dX7_saidHere_55 : decode cX7_saidHere 55 = .ok (.invokevirtual 265, 3) := by decide +kernel
theorem dX7_saidHere_58 : decode cX7_saidHere 58 = .ok (.goto 4, 3) := by decide +kernel
theorem dX7_saidHere_61 : decode cX7_saidHere 61 = .ok (.iconst 0, 1) := by decide +kernel
theorem dX7_saidHere_62 : decode cX7_saidHere 62 = .ok (.istore 4, 2) := by decide +kernel
theorem dX7_saidHere_64 : decode cX7_saidHere 64 = .ok (.aload_n 0, 1) := by decide +kernel
theorem dX7_saidHere_65 : decode cX7_saidHere 65 = .ok (.getfield 238, 3) := by decide +kernel
theorem dX7_saidHere_68 : decode cX7_saidHere 68 = .ok (.ifCond .ge 24, 3) := by decide +kernel
theorem dX7_saidHere_71 : decode cX7_saidHere 71 = .ok (.aload_n 0, 1) := by decide +kernel
theorem dX7_saidHere_72 : decode cX7_saidHere 72 = .ok (.getfield 7, 3) := by decide +kernel
theorem dX7_saidHere_75 : decode cX7_saidHere 75 = .ok (.iconst 3, 1) := by decide +kernel
theorem dX7_saidHere_76 : decode cX7_saidHere 76 = .ok (.iload_n 1, 1) := by decide +kernel
theorem dX7_saidHere_77 : decode cX7_saidHere 77 = .ok (.iadd, 1) := by decide +kernel
theorem dX7_saidHere_78 : decode cX7_saidHere 78 = .ok (.sipush 1000, 3) := by decide +kernel
theorem dX7_saidHere_81 : decode cX7_saidHere 81 = .ok (.iload_n 2, 1) := by decide +kernel
theorem dX7_saidHere_82 : decode cX7_saidHere 82 = .ok (.imul, 1) := by decide +kernel
theorem dX7_saidHere_83 : decode cX7_saidHere 83 = .ok (.bipush 10, 2) := by decide +kernel
theorem dX7_saidHere_85 : decode cX7_saidHere 85 = .ok (.iload_n 3, 1) := by decide +kernel
theorem dX7_saidHere_86 : decode cX7_saidHere 86 = .ok (.imul, 1) := by decide +kernel
theorem dX7_saidHere_87 : decode cX7_saidHere 87 = .ok (.iadd, 1) := by decide +kernel
theorem dX7_saidHere_88 : decode cX7_saidHere 88 = .ok (.iload 4, 2) := by decide +kernel
theorem dX7_saidHere_90 : decode cX7_saidHere 90 = .ok (.iadd, 1) := by decide +kernel
theorem dX7_saidHere_91 : decode cX7_saidHere 91 = .ok (.iastore, 1) := by decide +kernel
theorem dX7_saidHere_92 : decode cX7_saidHere 92 = .ok (.return_, 1) := by decide +kernel
theorem dX7_handHere_0 : decode cX7_handHere 0 = .ok (.aload_n 0, 1) := by decide +kernel
theorem dX7_handHere_1 : decode cX7_handHere 1 = .ok (.invokevirtual 262, 3) := by decide +kernel
theorem dX7_handHere_4 : decode cX7_handHere 4 = .ok (.aload_n 0, 1) := by decide +kernel
